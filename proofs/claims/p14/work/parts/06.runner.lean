def ip_oc (j : Nat) : Nat := bif Nat.ble 104 j then (bif Nat.ble 156 j then (bif Nat.ble 182 j then (bif Nat.ble 195 j then (bif Nat.ble 202 j then (bif Nat.ble 205 j then (bif Nat.ble 207 j then (bif Nat.ble 208 j then (6) else (6)) else (bif Nat.ble 206 j then (6) else (5))) else (bif Nat.ble 203 j then (bif Nat.ble 204 j then (5) else (5)) else (5))) else (bif Nat.ble 198 j then (bif Nat.ble 200 j then (bif Nat.ble 201 j then (5) else (5)) else (bif Nat.ble 199 j then (5) else (5))) else (bif Nat.ble 196 j then (bif Nat.ble 197 j then (5) else (5)) else (5)))) else (bif Nat.ble 188 j then (bif Nat.ble 191 j then (bif Nat.ble 193 j then (bif Nat.ble 194 j then (5) else (5)) else (bif Nat.ble 192 j then (5) else (5))) else (bif Nat.ble 189 j then (bif Nat.ble 190 j then (5) else (5)) else (5))) else (bif Nat.ble 185 j then (bif Nat.ble 186 j then (bif Nat.ble 187 j then (5) else (5)) else (5)) else (bif Nat.ble 183 j then (bif Nat.ble 184 j then (5) else (5)) else (5))))) else (bif Nat.ble 169 j then (bif Nat.ble 175 j then (bif Nat.ble 178 j then (bif Nat.ble 180 j then (bif Nat.ble 181 j then (5) else (5)) else (bif Nat.ble 179 j then (5) else (5))) else (bif Nat.ble 176 j then (bif Nat.ble 177 j then (5) else (5)) else (5))) else (bif Nat.ble 172 j then (bif Nat.ble 173 j then (bif Nat.ble 174 j then (5) else (5)) else (5)) else (bif Nat.ble 170 j then (bif Nat.ble 171 j then (5) else (5)) else (5)))) else (bif Nat.ble 162 j then (bif Nat.ble 165 j then (bif Nat.ble 167 j then (bif Nat.ble 168 j then (5) else (5)) else (bif Nat.ble 166 j then (5) else (5))) else (bif Nat.ble 163 j then (bif Nat.ble 164 j then (5) else (5)) else (5))) else (bif Nat.ble 159 j then (bif Nat.ble 160 j then (bif Nat.ble 161 j then (5) else (5)) else (5)) else (bif Nat.ble 157 j then (bif Nat.ble 158 j then (5) else (5)) else (5)))))) else (bif Nat.ble 130 j then (bif Nat.ble 143 j then (bif Nat.ble 149 j then (bif Nat.ble 152 j then (bif Nat.ble 154 j then (bif Nat.ble 155 j then (5) else (5)) else (bif Nat.ble 153 j then (5) else (5))) else (bif Nat.ble 150 j then (bif Nat.ble 151 j then (5) else (5)) else (5))) else (bif Nat.ble 146 j then (bif Nat.ble 147 j then (bif Nat.ble 148 j then (5) else (5)) else (5)) else (bif Nat.ble 144 j then (bif Nat.ble 145 j then (5) else (5)) else (5)))) else (bif Nat.ble 136 j then (bif Nat.ble 139 j then (bif Nat.ble 141 j then (bif Nat.ble 142 j then (5) else (5)) else (bif Nat.ble 140 j then (5) else (5))) else (bif Nat.ble 137 j then (bif Nat.ble 138 j then (5) else (5)) else (5))) else (bif Nat.ble 133 j then (bif Nat.ble 134 j then (bif Nat.ble 135 j then (5) else (5)) else (5)) else (bif Nat.ble 131 j then (bif Nat.ble 132 j then (5) else (5)) else (5))))) else (bif Nat.ble 117 j then (bif Nat.ble 123 j then (bif Nat.ble 126 j then (bif Nat.ble 128 j then (bif Nat.ble 129 j then (5) else (5)) else (bif Nat.ble 127 j then (5) else (5))) else (bif Nat.ble 124 j then (bif Nat.ble 125 j then (5) else (5)) else (5))) else (bif Nat.ble 120 j then (bif Nat.ble 121 j then (bif Nat.ble 122 j then (4) else (4)) else (4)) else (bif Nat.ble 118 j then (bif Nat.ble 119 j then (4) else (4)) else (4)))) else (bif Nat.ble 110 j then (bif Nat.ble 113 j then (bif Nat.ble 115 j then (bif Nat.ble 116 j then (4) else (4)) else (bif Nat.ble 114 j then (4) else (4))) else (bif Nat.ble 111 j then (bif Nat.ble 112 j then (4) else (4)) else (4))) else (bif Nat.ble 107 j then (bif Nat.ble 108 j then (bif Nat.ble 109 j then (4) else (4)) else (4)) else (bif Nat.ble 105 j then (bif Nat.ble 106 j then (4) else (4)) else (4))))))) else (bif Nat.ble 52 j then (bif Nat.ble 78 j then (bif Nat.ble 91 j then (bif Nat.ble 97 j then (bif Nat.ble 100 j then (bif Nat.ble 102 j then (bif Nat.ble 103 j then (4) else (4)) else (bif Nat.ble 101 j then (4) else (4))) else (bif Nat.ble 98 j then (bif Nat.ble 99 j then (4) else (4)) else (4))) else (bif Nat.ble 94 j then (bif Nat.ble 95 j then (bif Nat.ble 96 j then (4) else (4)) else (4)) else (bif Nat.ble 92 j then (bif Nat.ble 93 j then (4) else (4)) else (4)))) else (bif Nat.ble 84 j then (bif Nat.ble 87 j then (bif Nat.ble 89 j then (bif Nat.ble 90 j then (4) else (4)) else (bif Nat.ble 88 j then (4) else (4))) else (bif Nat.ble 85 j then (bif Nat.ble 86 j then (4) else (4)) else (4))) else (bif Nat.ble 81 j then (bif Nat.ble 82 j then (bif Nat.ble 83 j then (4) else (4)) else (4)) else (bif Nat.ble 79 j then (bif Nat.ble 80 j then (4) else (4)) else (4))))) else (bif Nat.ble 65 j then (bif Nat.ble 71 j then (bif Nat.ble 74 j then (bif Nat.ble 76 j then (bif Nat.ble 77 j then (4) else (4)) else (bif Nat.ble 75 j then (4) else (4))) else (bif Nat.ble 72 j then (bif Nat.ble 73 j then (4) else (4)) else (4))) else (bif Nat.ble 68 j then (bif Nat.ble 69 j then (bif Nat.ble 70 j then (4) else (4)) else (3)) else (bif Nat.ble 66 j then (bif Nat.ble 67 j then (3) else (3)) else (3)))) else (bif Nat.ble 58 j then (bif Nat.ble 61 j then (bif Nat.ble 63 j then (bif Nat.ble 64 j then (3) else (3)) else (bif Nat.ble 62 j then (3) else (3))) else (bif Nat.ble 59 j then (bif Nat.ble 60 j then (3) else (2)) else (2))) else (bif Nat.ble 55 j then (bif Nat.ble 56 j then (bif Nat.ble 57 j then (2) else (2)) else (2)) else (bif Nat.ble 53 j then (bif Nat.ble 54 j then (2) else (2)) else (2)))))) else (bif Nat.ble 26 j then (bif Nat.ble 39 j then (bif Nat.ble 45 j then (bif Nat.ble 48 j then (bif Nat.ble 50 j then (bif Nat.ble 51 j then (2) else (2)) else (bif Nat.ble 49 j then (2) else (2))) else (bif Nat.ble 46 j then (bif Nat.ble 47 j then (2) else (2)) else (2))) else (bif Nat.ble 42 j then (bif Nat.ble 43 j then (bif Nat.ble 44 j then (1) else (1)) else (1)) else (bif Nat.ble 40 j then (bif Nat.ble 41 j then (1) else (1)) else (1)))) else (bif Nat.ble 32 j then (bif Nat.ble 35 j then (bif Nat.ble 37 j then (bif Nat.ble 38 j then (1) else (1)) else (bif Nat.ble 36 j then (1) else (1))) else (bif Nat.ble 33 j then (bif Nat.ble 34 j then (1) else (1)) else (1))) else (bif Nat.ble 29 j then (bif Nat.ble 30 j then (bif Nat.ble 31 j then (1) else (1)) else (1)) else (bif Nat.ble 27 j then (bif Nat.ble 28 j then (1) else (1)) else (1))))) else (bif Nat.ble 13 j then (bif Nat.ble 19 j then (bif Nat.ble 22 j then (bif Nat.ble 24 j then (bif Nat.ble 25 j then (1) else (1)) else (bif Nat.ble 23 j then (0) else (0))) else (bif Nat.ble 20 j then (bif Nat.ble 21 j then (0) else (0)) else (0))) else (bif Nat.ble 16 j then (bif Nat.ble 17 j then (bif Nat.ble 18 j then (0) else (0)) else (0)) else (bif Nat.ble 14 j then (bif Nat.ble 15 j then (0) else (0)) else (0)))) else (bif Nat.ble 6 j then (bif Nat.ble 9 j then (bif Nat.ble 11 j then (bif Nat.ble 12 j then (0) else (0)) else (bif Nat.ble 10 j then (0) else (0))) else (bif Nat.ble 7 j then (bif Nat.ble 8 j then (0) else (0)) else (0))) else (bif Nat.ble 3 j then (bif Nat.ble 4 j then (bif Nat.ble 5 j then (0) else (0)) else (0)) else (bif Nat.ble 1 j then (bif Nat.ble 2 j then (0) else (0)) else (0)))))))
def ip_kd (j : Nat) : Nat := bif Nat.ble 104 j then (bif Nat.ble 156 j then (bif Nat.ble 182 j then (bif Nat.ble 195 j then (bif Nat.ble 202 j then (bif Nat.ble 205 j then (bif Nat.ble 207 j then (bif Nat.ble 208 j then (4) else (3)) else (bif Nat.ble 206 j then (3) else (0))) else (bif Nat.ble 203 j then (bif Nat.ble 204 j then (0) else (0)) else (0))) else (bif Nat.ble 198 j then (bif Nat.ble 200 j then (bif Nat.ble 201 j then (0) else (0)) else (bif Nat.ble 199 j then (0) else (1))) else (bif Nat.ble 196 j then (bif Nat.ble 197 j then (0) else (0)) else (0)))) else (bif Nat.ble 188 j then (bif Nat.ble 191 j then (bif Nat.ble 193 j then (bif Nat.ble 194 j then (0) else (0)) else (bif Nat.ble 192 j then (0) else (0))) else (bif Nat.ble 189 j then (bif Nat.ble 190 j then (0) else (0)) else (0))) else (bif Nat.ble 185 j then (bif Nat.ble 186 j then (bif Nat.ble 187 j then (1) else (1)) else (0)) else (bif Nat.ble 183 j then (bif Nat.ble 184 j then (0) else (0)) else (0))))) else (bif Nat.ble 169 j then (bif Nat.ble 175 j then (bif Nat.ble 178 j then (bif Nat.ble 180 j then (bif Nat.ble 181 j then (0) else (0)) else (bif Nat.ble 179 j then (0) else (0))) else (bif Nat.ble 176 j then (bif Nat.ble 177 j then (0) else (0)) else (0))) else (bif Nat.ble 172 j then (bif Nat.ble 173 j then (bif Nat.ble 174 j then (0) else (0)) else (0)) else (bif Nat.ble 170 j then (bif Nat.ble 171 j then (0) else (0)) else (0)))) else (bif Nat.ble 162 j then (bif Nat.ble 165 j then (bif Nat.ble 167 j then (bif Nat.ble 168 j then (1) else (0)) else (bif Nat.ble 166 j then (0) else (0))) else (bif Nat.ble 163 j then (bif Nat.ble 164 j then (0) else (0)) else (0))) else (bif Nat.ble 159 j then (bif Nat.ble 160 j then (bif Nat.ble 161 j then (0) else (0)) else (0)) else (bif Nat.ble 157 j then (bif Nat.ble 158 j then (0) else (0)) else (0)))))) else (bif Nat.ble 130 j then (bif Nat.ble 143 j then (bif Nat.ble 149 j then (bif Nat.ble 152 j then (bif Nat.ble 154 j then (bif Nat.ble 155 j then (0) else (0)) else (bif Nat.ble 153 j then (0) else (0))) else (bif Nat.ble 150 j then (bif Nat.ble 151 j then (0) else (0)) else (0))) else (bif Nat.ble 146 j then (bif Nat.ble 147 j then (bif Nat.ble 148 j then (0) else (0)) else (0)) else (bif Nat.ble 144 j then (bif Nat.ble 145 j then (0) else (0)) else (1)))) else (bif Nat.ble 136 j then (bif Nat.ble 139 j then (bif Nat.ble 141 j then (bif Nat.ble 142 j then (1) else (0)) else (bif Nat.ble 140 j then (0) else (0))) else (bif Nat.ble 137 j then (bif Nat.ble 138 j then (0) else (0)) else (0))) else (bif Nat.ble 133 j then (bif Nat.ble 134 j then (bif Nat.ble 135 j then (0) else (0)) else (0)) else (bif Nat.ble 131 j then (bif Nat.ble 132 j then (0) else (0)) else (0))))) else (bif Nat.ble 117 j then (bif Nat.ble 123 j then (bif Nat.ble 126 j then (bif Nat.ble 128 j then (bif Nat.ble 129 j then (0) else (0)) else (bif Nat.ble 127 j then (0) else (0))) else (bif Nat.ble 124 j then (bif Nat.ble 125 j then (1) else (0)) else (2))) else (bif Nat.ble 120 j then (bif Nat.ble 121 j then (bif Nat.ble 122 j then (1) else (1)) else (1)) else (bif Nat.ble 118 j then (bif Nat.ble 119 j then (1) else (1)) else (1)))) else (bif Nat.ble 110 j then (bif Nat.ble 113 j then (bif Nat.ble 115 j then (bif Nat.ble 116 j then (1) else (0)) else (bif Nat.ble 114 j then (0) else (0))) else (bif Nat.ble 111 j then (bif Nat.ble 112 j then (0) else (0)) else (0))) else (bif Nat.ble 107 j then (bif Nat.ble 108 j then (bif Nat.ble 109 j then (0) else (0)) else (0)) else (bif Nat.ble 105 j then (bif Nat.ble 106 j then (0) else (0)) else (0))))))) else (bif Nat.ble 52 j then (bif Nat.ble 78 j then (bif Nat.ble 91 j then (bif Nat.ble 97 j then (bif Nat.ble 100 j then (bif Nat.ble 102 j then (bif Nat.ble 103 j then (0) else (0)) else (bif Nat.ble 101 j then (0) else (0))) else (bif Nat.ble 98 j then (bif Nat.ble 99 j then (0) else (0)) else (0))) else (bif Nat.ble 94 j then (bif Nat.ble 95 j then (bif Nat.ble 96 j then (0) else (0)) else (0)) else (bif Nat.ble 92 j then (bif Nat.ble 93 j then (0) else (0)) else (0)))) else (bif Nat.ble 84 j then (bif Nat.ble 87 j then (bif Nat.ble 89 j then (bif Nat.ble 90 j then (0) else (0)) else (bif Nat.ble 88 j then (0) else (0))) else (bif Nat.ble 85 j then (bif Nat.ble 86 j then (0) else (0)) else (0))) else (bif Nat.ble 81 j then (bif Nat.ble 82 j then (bif Nat.ble 83 j then (0) else (0)) else (0)) else (bif Nat.ble 79 j then (bif Nat.ble 80 j then (0) else (0)) else (0))))) else (bif Nat.ble 65 j then (bif Nat.ble 71 j then (bif Nat.ble 74 j then (bif Nat.ble 76 j then (bif Nat.ble 77 j then (0) else (0)) else (bif Nat.ble 75 j then (0) else (0))) else (bif Nat.ble 72 j then (bif Nat.ble 73 j then (0) else (0)) else (0))) else (bif Nat.ble 68 j then (bif Nat.ble 69 j then (bif Nat.ble 70 j then (0) else (2)) else (0)) else (bif Nat.ble 66 j then (bif Nat.ble 67 j then (0) else (0)) else (0)))) else (bif Nat.ble 58 j then (bif Nat.ble 61 j then (bif Nat.ble 63 j then (bif Nat.ble 64 j then (0) else (0)) else (bif Nat.ble 62 j then (0) else (0))) else (bif Nat.ble 59 j then (bif Nat.ble 60 j then (2) else (0)) else (0))) else (bif Nat.ble 55 j then (bif Nat.ble 56 j then (bif Nat.ble 57 j then (0) else (0)) else (1)) else (bif Nat.ble 53 j then (bif Nat.ble 54 j then (0) else (0)) else (0)))))) else (bif Nat.ble 26 j then (bif Nat.ble 39 j then (bif Nat.ble 45 j then (bif Nat.ble 48 j then (bif Nat.ble 50 j then (bif Nat.ble 51 j then (0) else (0)) else (bif Nat.ble 49 j then (0) else (0))) else (bif Nat.ble 46 j then (bif Nat.ble 47 j then (0) else (0)) else (2))) else (bif Nat.ble 42 j then (bif Nat.ble 43 j then (bif Nat.ble 44 j then (0) else (0)) else (0)) else (bif Nat.ble 40 j then (bif Nat.ble 41 j then (0) else (0)) else (0)))) else (bif Nat.ble 32 j then (bif Nat.ble 35 j then (bif Nat.ble 37 j then (bif Nat.ble 38 j then (0) else (0)) else (bif Nat.ble 36 j then (0) else (0))) else (bif Nat.ble 33 j then (bif Nat.ble 34 j then (0) else (0)) else (0))) else (bif Nat.ble 29 j then (bif Nat.ble 30 j then (bif Nat.ble 31 j then (0) else (0)) else (0)) else (bif Nat.ble 27 j then (bif Nat.ble 28 j then (0) else (0)) else (0))))) else (bif Nat.ble 13 j then (bif Nat.ble 19 j then (bif Nat.ble 22 j then (bif Nat.ble 24 j then (bif Nat.ble 25 j then (0) else (2)) else (bif Nat.ble 23 j then (1) else (0))) else (bif Nat.ble 20 j then (bif Nat.ble 21 j then (0) else (0)) else (0))) else (bif Nat.ble 16 j then (bif Nat.ble 17 j then (bif Nat.ble 18 j then (0) else (0)) else (0)) else (bif Nat.ble 14 j then (bif Nat.ble 15 j then (0) else (0)) else (0)))) else (bif Nat.ble 6 j then (bif Nat.ble 9 j then (bif Nat.ble 11 j then (bif Nat.ble 12 j then (0) else (0)) else (bif Nat.ble 10 j then (0) else (0))) else (bif Nat.ble 7 j then (bif Nat.ble 8 j then (0) else (0)) else (0))) else (bif Nat.ble 3 j then (bif Nat.ble 4 j then (bif Nat.ble 5 j then (0) else (0)) else (0)) else (bif Nat.ble 1 j then (bif Nat.ble 2 j then (0) else (0)) else (2)))))))
theorem ip_ock_all : (List.range 209).all (fun j => match ip_ML[j]? with
    | none => true
    | some e => Nat.beq (ip_oc j) e.2.2.2.1 && Nat.beq (ip_kd j) e.2.2.2.2.1) = true := by decide +kernel
theorem ip_ock {j : Nat} {e : ip_ME} (he : ip_ML[j]? = some e) : ip_oc j = e.2.2.2.1 ∧ ip_kd j = e.2.2.2.2.1 := by
  have hn : j < 209 := (List.getElem?_eq_some_iff.mp he).1
  have h := List.all_eq_true.mp ip_ock_all j (List.mem_range.mpr hn)
  simp only [he, Bool.and_eq_true, Nat.beq_eq] at h
  exact h
/-! THE RUNNER: the bytecode run over a domain of ints; cells by their places from a base on -/
noncomputable def ip_nth {α : Type} (l : List α) (k : Nat) : Option α :=
  List.rec (motive := fun _ => Nat → Option α) (fun _ => none) (fun x _ ih k => Nat.rec (motive := fun _ => Option α) (some x) (fun k' _ => ih k') k) l k
noncomputable def ip_set {α : Type} (l : List α) (k : Nat) (v : α) : List α :=
  List.rec (motive := fun _ => Nat → List α) (fun _ => []) (fun x xs ih k => Nat.rec (motive := fun _ => List α) (v :: xs) (fun k' _ => x :: ih k') k) l k
theorem ip_nth_eq {α : Type} (l : List α) : ∀ k : Nat, ip_nth l k = l[k]? := by
  induction l with
  | nil => intro k; rfl
  | cons x xs ih => intro k; cases k with
    | zero => rfl
    | succ k => rw [List.getElem?_cons_succ]; exact ih k
theorem ip_set_eq {α : Type} (l : List α) (v : α) : ∀ k : Nat, ip_set l k v = l.set k v := by
  induction l with
  | nil => intro k; rfl
  | cons x xs ih => intro k; cases k with
    | zero => rfl
    | succ k => rw [List.set_cons_succ, ← ih k]; rfl
abbrev ip_V (D : Type) : Type := D ⊕ (D ⊕ (Option Nat ⊕ Nat))
abbrev ip_Hp (D : Type) : Type := List (Nat × List (ip_V D))
abbrev ip_Fr (D : Type) : Type := Nat × List (Option (ip_V D)) × List (ip_V D) × ip_Hp D × Nat × Nat × Bool
abbrev ip_O (D : Type) : Type := (Int32 → D) × (Nat → D → D → Option D) × (Nat → D → D → Option Bool) × (D → Option Int32)
abbrev ip_E : Type := Instr × Nat × Nat × Nat × Nat
def ip_cc (k : ClassFile.Cond) : Nat := match k with
  | .eq => 0
  | .ne => 1
  | .lt => 2
  | .ge => 3
  | .gt => 4
  | .le => 5
def ip_one {D : Type} (v : ip_V D) : Bool := match v with
  | .inr (.inl _) => false
  | _ => true
/-- the words that a stack takes -/
def ip_cat {D : Type} : List (ip_V D) → Nat
  | [] => 0
  | .inr (.inl _) :: r => 2 + ip_cat r
  | _ :: r => 1 + ip_cat r
def ip_bit (x : Option Int32) : Bool := match x with
  | some v => decide (v = 0) || decide (v = 1)
  | none => false
/-- a field's value at first, by its type -/
def ip_dv {D : Type} (z : D) (t : FieldType) : ip_V D := match t with
  | .int => .inl z
  | .boolean => .inl z
  | _ => .inr (.inr (.inl none))
/-- an index into a row: not below 0 -/
def ip_ix (x : Option Int32) : Option Nat := match x with
  | some v => if v < 0 then none else some v.toNatClampNeg
  | none => none
/-- a first cell is made first -/
def ip_ne {α : Type} (hp : List α) (mc : Nat) : Bool := match hp with
  | [] => Nat.beq mc 0
  | _ :: _ => true
section Run
variable {D : Type}
def ip_bin (ops : ip_O D) (o : Nat) (nx : Nat) (f : ip_Fr D) : Option (ip_Fr D ⊕ (Nat × List (ip_V D) × ip_Fr D)) := match f with
  | (_, ls, .inl y :: .inl x :: st, hp, mc, ms, fz) => (match ops.2.1 o x y with
    | some z => some (.inl (nx, ls, .inl z :: st, hp, mc, ms, fz))
    | none => none)
  | _ => none
def ip_br (t : Option Bool) (nx a : Nat) (ls : List (Option (ip_V D))) (st : List (ip_V D)) (hp : ip_Hp D) (mc ms : Nat) (fz : Bool) : Option (ip_Fr D ⊕ (Nat × List (ip_V D) × ip_Fr D)) := match t with
  | some true => some (.inl (a, ls, st, hp, mc, ms, fz))
  | some false => some (.inl (nx, ls, st, hp, mc, ms, fz))
  | none => none
noncomputable def ip_ald (ops : ip_O D) (kd : Nat) (nx : Nat) (f : ip_Fr D) : Option (ip_Fr D ⊕ (Nat × List (ip_V D) × ip_Fr D)) := match f with
  | (_, ls, .inl ix :: .inr (.inr (.inl (some q))) :: st, hp, mc, ms, fz) => (match ip_ix (ops.2.2.2 ix), ip_nth hp q with
    | some k, some (kd', cs) => bif Nat.beq kd kd' then (match ip_nth cs k with
      | some v => some (.inl (nx, ls, v :: st, hp, mc, ms, fz))
      | none => none) else none
    | _, _ => none)
  | _ => none
noncomputable def ip_ast (ops : ip_O D) (kd : Nat) (nx : Nat) (v : ip_V D) (f : ip_Fr D) : Option (ip_Fr D ⊕ (Nat × List (ip_V D) × ip_Fr D)) := match f with
  | (_, ls, .inl ix :: .inr (.inr (.inl (some q))) :: st, hp, mc, ms, fz) => (match ip_ix (ops.2.2.2 ix), ip_nth hp q with
    | some k, some (kd', cs) => bif Nat.beq kd kd' then (match ip_nth cs k with
      | some _ => some (.inl (nx, ls, st, ip_set hp q (kd, ip_set cs k v), mc, ms, fz))
      | none => none) else none
    | _, _ => none)
  | _ => none
noncomputable def ip_mka (ops : ip_O D) (rc rs kd : Nat) (z : ip_V D) (nx : Nat) (f : ip_Fr D) : Option (ip_Fr D ⊕ (Nat × List (ip_V D) × ip_Fr D)) := match f with
  | (_, ls, .inl x :: st, hp, mc, ms, true) => (match ip_ix (ops.2.2.2 x) with
    | some k => bif ip_ne hp mc && (Nat.ble (mc + 1) rc && (Nat.ble (ms + k) rs && Nat.ble k 1000)) then some (.inl (nx, ls, .inr (.inr (.inl (some hp.length))) :: st, hp ++ [(kd, List.replicate k z)], mc + 1, ms + k, true)) else none
    | none => none)
  | _ => none
/-- arguments off the stack, in their order -/
def ip_arg : Nat → List (ip_V D) → List (ip_V D) → Option (List (ip_V D) × List (ip_V D))
  | 0, acc, st => some (acc, st)
  | n + 1, acc, v :: st => bif ip_one v then ip_arg n (v :: acc) st else none
  | _ + 1, _, [] => none
def ip_inv (a b : Nat) (nx : Nat) (f : ip_Fr D) : Option (ip_Fr D ⊕ (Nat × List (ip_V D) × ip_Fr D)) := match f with
  | (_, ls, st, hp, mc, ms, fz) => (match ip_arg b [] st with
    | some (as, st') => bif ip_ne hp mc && Nat.ble (ip_cat st') 8 then some (.inr (a, as, (nx, ls, st', hp, mc, ms, fz))) else none
    | none => none)
def ip_sK (ops : ip_O D) (v : Int32) (nx : Nat) (f : ip_Fr D) : Option (ip_Fr D ⊕ (Nat × List (ip_V D) × ip_Fr D)) := match f with
  | (_, ls, st, hp, mc, ms, fz) => some (.inl (nx, ls, .inl (ops.1 v) :: st, hp, mc, ms, fz))
noncomputable def ip_sLd (k nx : Nat) (f : ip_Fr D) : Option (ip_Fr D ⊕ (Nat × List (ip_V D) × ip_Fr D)) := match f with
  | (_, ls, st, hp, mc, ms, fz) => (match ip_nth ls k with
      | some (some (.inl d)) => some (.inl (nx, ls, .inl d :: st, hp, mc, ms, fz))
      | _ => none)
noncomputable def ip_sLa (k nx : Nat) (f : ip_Fr D) : Option (ip_Fr D ⊕ (Nat × List (ip_V D) × ip_Fr D)) := match f with
  | (_, ls, st, hp, mc, ms, fz) => (match ip_nth ls k with
      | some (some (.inr (.inr (.inl (some q))))) => some (.inl (nx, ls, .inr (.inr (.inl (some q))) :: st, hp, mc, ms, fz))
      | some (some (.inr (.inr (.inr t)))) => some (.inl (nx, ls, .inr (.inr (.inr t)) :: st, hp, mc, ms, fz))
      | _ => none)
noncomputable def ip_sSt (k nx : Nat) (f : ip_Fr D) : Option (ip_Fr D ⊕ (Nat × List (ip_V D) × ip_Fr D)) := match f with
  | (_, ls, st, hp, mc, ms, fz) => (match st, ip_nth ls k with
      | .inl d :: st, some _ => some (.inl (nx, ip_set ls k (some (.inl d)), st, hp, mc, ms, fz))
      | _, _ => none)
noncomputable def ip_sSa (k nx : Nat) (f : ip_Fr D) : Option (ip_Fr D ⊕ (Nat × List (ip_V D) × ip_Fr D)) := match f with
  | (_, ls, st, hp, mc, ms, fz) => (match st, ip_nth ls k with
      | .inr (.inr (.inl (some q))) :: st, some _ => some (.inl (nx, ip_set ls k (some (.inr (.inr (.inl (some q))))), st, hp, mc, ms, fz))
      | _, _ => none)
noncomputable def ip_sInc (ops : ip_O D) (k : Nat) (v : Int) (nx : Nat) (f : ip_Fr D) : Option (ip_Fr D ⊕ (Nat × List (ip_V D) × ip_Fr D)) := match f with
  | (_, ls, st, hp, mc, ms, fz) => (match ip_nth ls k with
      | some (some (.inl d)) => (match ops.2.1 0 d (ops.1 (Int32.ofInt v)) with
        | some z => some (.inl (nx, ip_set ls k (some (.inl z)), st, hp, mc, ms, fz))
        | none => none)
      | _ => none)
def ip_sDup (nx : Nat) (f : ip_Fr D) : Option (ip_Fr D ⊕ (Nat × List (ip_V D) × ip_Fr D)) := match f with
  | (_, ls, st, hp, mc, ms, fz) => (match st with
      | v :: r => bif ip_one v then some (.inl (nx, ls, v :: v :: r, hp, mc, ms, fz)) else none
      | _ => none)
def ip_sDu2 (nx : Nat) (f : ip_Fr D) : Option (ip_Fr D ⊕ (Nat × List (ip_V D) × ip_Fr D)) := match f with
  | (_, ls, st, hp, mc, ms, fz) => (match st with
      | v :: w :: r => bif ip_one v && ip_one w then some (.inl (nx, ls, v :: w :: v :: w :: r, hp, mc, ms, fz)) else none
      | _ => none)
def ip_sPop (nx : Nat) (f : ip_Fr D) : Option (ip_Fr D ⊕ (Nat × List (ip_V D) × ip_Fr D)) := match f with
  | (_, ls, st, hp, mc, ms, fz) => (match st with
      | v :: r => bif ip_one v then some (.inl (nx, ls, r, hp, mc, ms, fz)) else none
      | _ => none)
def ip_sNeg (ops : ip_O D) (nx : Nat) (f : ip_Fr D) : Option (ip_Fr D ⊕ (Nat × List (ip_V D) × ip_Fr D)) := match f with
  | (_, ls, st, hp, mc, ms, fz) => (match st with
      | .inl x :: r => (match ops.2.1 8 x x with
        | some z => some (.inl (nx, ls, .inl z :: r, hp, mc, ms, fz))
        | none => none)
      | _ => none)
def ip_sI2l (nx : Nat) (f : ip_Fr D) : Option (ip_Fr D ⊕ (Nat × List (ip_V D) × ip_Fr D)) := match f with
  | (_, ls, st, hp, mc, ms, fz) => (match st with
      | .inl x :: r => some (.inl (nx, ls, .inr (.inl x) :: r, hp, mc, ms, fz))
      | _ => none)
def ip_sLc (ops : ip_O D) (nx : Nat) (f : ip_Fr D) : Option (ip_Fr D ⊕ (Nat × List (ip_V D) × ip_Fr D)) := match f with
  | (_, ls, st, hp, mc, ms, fz) => (match st with
      | .inr (.inl y) :: .inr (.inl x) :: r => (match ops.2.1 9 x y with
        | some z => some (.inl (nx, ls, .inl z :: r, hp, mc, ms, fz))
        | none => none)
      | _ => none)
def ip_sIf (ops : ip_O D) (k : ClassFile.Cond) (nx a : Nat) (f : ip_Fr D) : Option (ip_Fr D ⊕ (Nat × List (ip_V D) × ip_Fr D)) := match f with
  | (_, ls, st, hp, mc, ms, fz) => (match st with
      | .inl x :: r => ip_br (ops.2.2.1 (ip_cc k) x (ops.1 0)) nx a ls r hp mc ms fz
      | _ => none)
def ip_sIc (ops : ip_O D) (k : ClassFile.Cond) (nx a : Nat) (f : ip_Fr D) : Option (ip_Fr D ⊕ (Nat × List (ip_V D) × ip_Fr D)) := match f with
  | (_, ls, st, hp, mc, ms, fz) => (match st with
      | .inl y :: .inl x :: r => ip_br (ops.2.2.1 (ip_cc k) x y) nx a ls r hp mc ms fz
      | _ => none)
def ip_sGo (a : Nat) (f : ip_Fr D) : Option (ip_Fr D ⊕ (Nat × List (ip_V D) × ip_Fr D)) := match f with
  | (_, ls, st, hp, mc, ms, fz) => some (.inl (a, ls, st, hp, mc, ms, fz))
def ip_sTs (ops : ip_O D) (d lo hi : Int) (offs : Array Int) (f : ip_Fr D) : Option (ip_Fr D ⊕ (Nat × List (ip_V D) × ip_Fr D)) := match f with
  | (pc, ls, st, hp, mc, ms, fz) => (match st with
      | .inl x :: r => (match ops.2.2.2 x with
        | some v => if v.toInt < lo ∨ hi < v.toInt then (if (pc : Int) + d = ((((pc : Int) + d).toNat : Nat) : Int) then some (.inl (((pc : Int) + d).toNat, ls, r, hp, mc, ms, fz)) else none)
          else (match offs[(v.toInt - lo).toNat]? with
            | some o => if (pc : Int) + o = ((((pc : Int) + o).toNat : Nat) : Int) then some (.inl (((pc : Int) + o).toNat, ls, r, hp, mc, ms, fz)) else none
            | none => none)
        | none => if (pc : Int) + d = ((((pc : Int) + d).toNat : Nat) : Int) ∧ (Int32.ofInt lo).toInt = lo ∧ (Int32.ofInt hi).toInt = hi ∧ (ops.2.2.1 2 x (ops.1 (Int32.ofInt lo)) = some true ∨ ops.2.2.1 4 x (ops.1 (Int32.ofInt hi)) = some true) then some (.inl (((pc : Int) + d).toNat, ls, r, hp, mc, ms, fz)) else none)
      | _ => none)
def ip_sLs (ops : ip_O D) (d : Int) (ps : Array (Int × Int)) (f : ip_Fr D) : Option (ip_Fr D ⊕ (Nat × List (ip_V D) × ip_Fr D)) := match f with
  | (pc, ls, st, hp, mc, ms, fz) => (match st with
      | .inl x :: r => (match ops.2.2.2 x with
        | some v => if (ps.toList.zip (ps.toList.drop 1)).all (fun (a, next) => a.1 < next.1) = true ∧ (pc : Int) + Op.lookupswitch.offset ps.toList d v.toInt = ((((pc : Int) + Op.lookupswitch.offset ps.toList d v.toInt).toNat : Nat) : Int) then some (.inl (((pc : Int) + Op.lookupswitch.offset ps.toList d v.toInt).toNat, ls, r, hp, mc, ms, fz)) else none
        | none => none)
      | _ => none)
noncomputable def ip_sGf (nx a b : Nat) (f : ip_Fr D) : Option (ip_Fr D ⊕ (Nat × List (ip_V D) × ip_Fr D)) := match f with
  | (pc, ls, st, hp, mc, ms, fz) => (match st with
      | .inr (.inr (.inl (some q))) :: r => (match ip_nth hp q with
        | some (kd, fs) => bif Nat.beq kd a then (match ip_nth fs b with
          | some v => some (.inl (nx, ls, v :: r, hp, mc, ms, fz))
          | none => none) else none
        | none => none)
      | _ => none)
noncomputable def ip_sPf (ops : ip_O D) (nx a b c : Nat) (f : ip_Fr D) : Option (ip_Fr D ⊕ (Nat × List (ip_V D) × ip_Fr D)) := match f with
  | (pc, ls, st, hp, mc, ms, fz) => (match st with
      | v :: .inr (.inr (.inl (some q))) :: r => (match ip_nth hp q with
        | some (kd, fs) => bif Nat.beq kd a then (match ip_nth fs b with
          | some _ => (match v, c with
            | .inl d, 0 => some (.inl (nx, ls, r, ip_set hp q (a, ip_set fs b (.inl d)), mc, ms, fz))
            | .inl d, 1 => bif ip_bit (ops.2.2.2 d) then some (.inl (nx, ls, r, ip_set hp q (a, ip_set fs b (.inl d)), mc, ms, fz)) else none
            | .inr (.inr (.inl (some t))), 2 => some (.inl (nx, ls, r, ip_set hp q (a, ip_set fs b (.inr (.inr (.inl (some t))))), mc, ms, fz))
            | _, _ => none)
          | none => none) else none
        | none => none)
      | _ => none)
def ip_sGs (nx a : Nat) (f : ip_Fr D) : Option (ip_Fr D ⊕ (Nat × List (ip_V D) × ip_Fr D)) := match f with
  | (pc, ls, st, hp, mc, ms, fz) => some (.inl (nx, ls, .inr (.inr (.inr a)) :: st, hp, mc, ms, fz))
noncomputable def ip_sIal (ops : ip_O D) (ro : List (List D)) (nx : Nat) (f : ip_Fr D) : Option (ip_Fr D ⊕ (Nat × List (ip_V D) × ip_Fr D)) := match f with
  | (pc, ls, st, hp, mc, ms, fz) => (match st with
      | .inl ix :: .inr (.inr (.inr t)) :: r => (match ip_ix (ops.2.2.2 ix), ip_nth ro t with
        | some k, some ds => (match ip_nth ds k with
          | some d => some (.inl (nx, ls, .inl d :: r, hp, mc, ms, fz))
          | none => none)
        | _, _ => none)
      | _ => ip_ald ops 20 nx (pc, ls, st, hp, mc, ms, fz))
noncomputable def ip_sIas (ops : ip_O D) (nx : Nat) (f : ip_Fr D) : Option (ip_Fr D ⊕ (Nat × List (ip_V D) × ip_Fr D)) := match f with
  | (pc, ls, st, hp, mc, ms, fz) => (match st with
      | .inl d :: r => ip_ast ops 20 nx (.inl d) (pc, ls, r, hp, mc, ms, fz)
      | _ => none)
noncomputable def ip_sBas (ops : ip_O D) (nx : Nat) (f : ip_Fr D) : Option (ip_Fr D ⊕ (Nat × List (ip_V D) × ip_Fr D)) := match f with
  | (pc, ls, st, hp, mc, ms, fz) => (match st with
      | .inl d :: r => bif ip_bit (ops.2.2.2 d) then ip_ast ops 21 nx (.inl d) (pc, ls, r, hp, mc, ms, fz) else none
      | _ => none)
noncomputable def ip_sLas (ops : ip_O D) (nx : Nat) (f : ip_Fr D) : Option (ip_Fr D ⊕ (Nat × List (ip_V D) × ip_Fr D)) := match f with
  | (pc, ls, st, hp, mc, ms, fz) => (match st with
      | .inr (.inl d) :: r => ip_ast ops 22 nx (.inr (.inl d)) (pc, ls, r, hp, mc, ms, fz)
      | _ => none)
noncomputable def ip_sLen (ops : ip_O D) (ro : List (List D)) (nx : Nat) (f : ip_Fr D) : Option (ip_Fr D ⊕ (Nat × List (ip_V D) × ip_Fr D)) := match f with
  | (pc, ls, st, hp, mc, ms, fz) => (match st with
      | .inr (.inr (.inr t)) :: r => (match ip_nth ro t with
        | some ds => some (.inl (nx, ls, .inl (ops.1 (Int32.ofNat ds.length)) :: r, hp, mc, ms, fz))
        | none => none)
      | _ => none)
def ip_sNew (ops : ip_O D) (rc rs nx a c : Nat) (f : ip_Fr D) : Option (ip_Fr D ⊕ (Nat × List (ip_V D) × ip_Fr D)) := match f with
  | (pc, ls, st, hp, mc, ms, fz) => (match c, fz with
      | 0, true => bif ip_ne hp mc && (Nat.ble (mc + 1) rc && Nat.ble (ms + ip_N a) rs) then some (.inl (nx, ls, .inr (.inr (.inl (some hp.length))) :: st, hp ++ [(a, (List.range (ip_N a)).map (fun k => ip_dv (ops.1 0) (ip_Y a k)))], mc + 1, ms + ip_N a, true)) else none
      | _, _ => none)
def ip_sIs (ops : ip_O D) (rc rs nx a b c : Nat) (f : ip_Fr D) : Option (ip_Fr D ⊕ (Nat × List (ip_V D) × ip_Fr D)) := match f with
  | (pc, ls, st, hp, mc, ms, fz) => (match c with
      | 4 => (match st with
        | .inl y :: .inl x :: r => bif Nat.ble (ip_cat r) 8 && (Nat.ble mc rc && Nat.ble ms rs) then (match ops.2.2.1 2 x y with
          | some true => some (.inl (nx, ls, .inl y :: r, hp, mc, ms, fz))
          | some false => some (.inl (nx, ls, .inl x :: r, hp, mc, ms, fz))
          | none => none) else none
        | _ => none)
      | _ => ip_inv a b nx (pc, ls, st, hp, mc, ms, fz))
def ip_sIp (nx a b c : Nat) (f : ip_Fr D) : Option (ip_Fr D ⊕ (Nat × List (ip_V D) × ip_Fr D)) := match f with
  | (pc, ls, st, hp, mc, ms, fz) => (match c with
      | 2 => ip_inv a (b + 1) nx (pc, ls, st, hp, mc, ms, fz)
      | 3 => (match st with
        | .inr (.inr (.inl (some _))) :: r => bif Nat.ble (ip_cat r) 8 then some (.inl (nx, ls, r, hp, mc, ms, fz)) else none
        | _ => none)
      | _ => none)
noncomputable def ip_step (ops : ip_O D) (ro : List (List D)) (rc rs : Nat) (x : ip_E) (f : ip_Fr D) : Option (ip_Fr D ⊕ (Nat × List (ip_V D) × ip_Fr D)) :=
  match x with
  | (i, nx, a, b, c) => match i with
    | .iconst v => ip_sK ops (Int32.ofInt v) nx f
    | .bipush v => ip_sK ops (Int8.ofInt v).toInt32 nx f
    | .sipush v => ip_sK ops (Int16.ofInt v).toInt32 nx f
    | .iload k => ip_sLd k nx f
    | .iload_n k => ip_sLd k.val nx f
    | .aload k => ip_sLa k nx f
    | .aload_n k => ip_sLa k.val nx f
    | .istore k => ip_sSt k nx f
    | .istore_n k => ip_sSt k.val nx f
    | .astore k => ip_sSa k nx f
    | .astore_n k => ip_sSa k.val nx f
    | .iinc k v => ip_sInc ops k v nx f
    | .dup => ip_sDup nx f
    | .dup2 => ip_sDu2 nx f
    | .pop => ip_sPop nx f
    | .iadd => ip_bin ops 0 nx f
    | .isub => ip_bin ops 1 nx f
    | .imul => ip_bin ops 2 nx f
    | .idiv => ip_bin ops 3 nx f
    | .irem => ip_bin ops 4 nx f
    | .iand => ip_bin ops 5 nx f
    | .ishr => ip_bin ops 6 nx f
    | .iushr => ip_bin ops 7 nx f
    | .ineg => ip_sNeg ops nx f
    | .i2l => ip_sI2l nx f
    | .lcmp => ip_sLc ops nx f
    | .ifCond k _ => ip_sIf ops k nx a f
    | .if_icmp k _ => ip_sIc ops k nx a f
    | .goto _ => ip_sGo a f
    | .tableswitch d lo hi offs => ip_sTs ops d lo hi offs f
    | .lookupswitch d ps => ip_sLs ops d ps f
    | .getfield _ => ip_sGf nx a b f
    | .putfield _ => ip_sPf ops nx a b c f
    | .getstatic _ => ip_sGs nx a f
    | .iaload => ip_sIal ops ro nx f
    | .baload => ip_ald ops 21 nx f
    | .laload => ip_ald ops 22 nx f
    | .iastore => ip_sIas ops nx f
    | .bastore => ip_sBas ops nx f
    | .lastore => ip_sLas ops nx f
    | .arraylength => ip_sLen ops ro nx f
    | .newarray .int => ip_mka ops rc rs 20 (.inl (ops.1 0)) nx f
    | .newarray .boolean => ip_mka ops rc rs 21 (.inl (ops.1 0)) nx f
    | .newarray .long => ip_mka ops rc rs 22 (.inr (.inl (ops.1 0))) nx f
    | .new _ => ip_sNew ops rc rs nx a c f
    | .invokevirtual _ => ip_inv a (b + 1) nx f
    | .invokestatic _ => ip_sIs ops rc rs nx a b c f
    | .invokespecial _ => ip_sIp nx a b c f
    | _ => none
/-- where a run stops: a return, the throw, the call that may throw -/
def ip_stop (x : ip_E) : Bool := match x.1, x.2.2.2.2 with
  | .ireturn, _ => true
  | .areturn, _ => true
  | .return_, _ => true
  | .new _, 9 => true
  | .invokevirtual _, 9 => true
  | _, _ => false
/-- the value that comes back of a frame that stopped at a return -/
noncomputable def ip_back (ops : ip_O D) (x : ip_E) (st : List (ip_V D)) : Option (List (ip_V D)) := match x.1, x.2.2.2.2, st with
  | .ireturn, 0, [.inl d] => some [.inl d]
  | .ireturn, 1, [.inl d] => bif ip_bit (ops.2.2.2 d) then some [.inl d] else none
  | .areturn, _, [.inr (.inr (.inl (some q)))] => some [.inr (.inr (.inl (some q)))]
  | .return_, _, [] => some []
  | _, _, _ => none
noncomputable def ip_ent (jc : Nat) (as : List (ip_V D)) (hp : ip_Hp D) (fz : Bool) : ip_Fr D := (0, as.map some ++ List.replicate (ip_mx jc - as.length) none, [], hp, 0, 0, fz)
/-- a virtual call's receiver is an object of the callee's class; a constructor's an object -/
noncomputable def ip_rcv (hp : ip_Hp D) (kd oc : Nat) (as : List (ip_V D)) : Bool := match kd with
  | 0 => (match as with
    | .inr (.inr (.inl (some q))) :: _ => (match ip_nth hp q with
      | some (k, _) => Nat.beq k oc && Nat.ble (k + 1) 6
      | none => false)
    | _ => false)
  | 1 => true
  | 2 => (match as with
    | .inr (.inr (.inl (some _))) :: _ => true
    | _ => false)
  | _ => false
/-- a plain call -/
noncomputable def ip_cal (ops : ip_O D) (ih : Nat → ip_Fr D → Option (ip_Fr D)) (j jc : Nat) (as : List (ip_V D)) (f : ip_Fr D) : Option (ip_Fr D) := match f with
  | (pc, ls, st, hp, mc, ms, fz) => (match ih jc (ip_ent jc as hp fz) with
    | none => none
    | some (pc', _, st', hp', mc', ms', fz') => (match ip_T jc pc' with
      | none => none
      | some x => (match ip_back ops x st' with
        | none => none
        | some vs => bif ip_rcv hp (ip_kd jc) (ip_oc jc) as && ((!fz' || fz) && (Nat.ble as.length (ip_mx jc) && (Nat.beq mc' (ip_bc jc) && (Nat.ble ms' (ip_bs jc) && (Nat.ble (mc + ip_bc jc) (ip_bc j) && Nat.ble (ms + ip_bs jc) (ip_bs j)))))) then some (pc, ls, vs ++ st, hp', mc + ip_bc jc, ms + ip_bs jc, fz') else none)))
/-- a method that may throw: its answer, or none; and its cells -/
noncomputable def ip_thr (ih : Nat → ip_Fr D → Option (ip_Fr D)) (jt : Nat) (as : List (ip_V D)) (hp : ip_Hp D) : Option (Option D × ip_Hp D) := match ih jt (ip_ent jt as hp false) with
  | some (pc', _, st', hp', 0, 0, _) => (match ip_T jt pc' with
    | none => none
    | some x => (match x.1, x.2.2.2.2, st' with
      | .ireturn, 0, [.inl d] => some (some d, hp')
      | .new _, 9, [] => some (none, hp')
      | _, _, _ => none))
  | _ => none
/-- where a method that tries another goes on -/
noncomputable def ip_tr2 (ih : Nat → ip_Fr D → Option (ip_Fr D)) (hd : Nat → Nat) (jc : Nat) (f : ip_Fr D) : Option (ip_Fr D) := match f with
  | (pc1, ls1, st1, hp1, 0, 0, _) => (match ip_T jc pc1 with
    | some (.invokevirtual _, nx1, jt, b, 9) => (match ip_arg (b + 1) [] st1 with
      | none => none
      | some (as1, st2) => bif ip_rcv hp1 0 (ip_oc jt) as1 && (Nat.ble as1.length (ip_mx jt) && (Nat.ble (ip_cat st2) 8 && (Nat.ble (ip_bc jt) (ip_bc jc) && Nat.ble (ip_bs jt) (ip_bs jc)))) then (match ip_thr ih jt as1 hp1 with
        | none => none
        | some (some d, hp3) => some (nx1, ls1, .inl d :: st2, hp3, ip_bc jt, ip_bs jt, false)
        | some (none, hp3) => some (hd jc, ls1.map (fun _ => none), [], hp3, ip_bc jt, ip_bs jt, false)) else none)
    | _ => none)
  | _ => none
/-- a call of a method that tries another -/
noncomputable def ip_cat2 (ih : Nat → ip_Fr D → Option (ip_Fr D)) (hd : Nat → Nat) (j jc : Nat) (as : List (ip_V D)) (f : ip_Fr D) : Option (ip_Fr D) := match f with
  | (pc, ls, st, hp, mc, ms, _) => (match ih jc (ip_ent jc as hp false) with
    | none => none
    | some f1 => (match ip_tr2 ih hd jc f1 with
      | none => none
      | some f2 => (match ih jc f2 with
        | some (pc4, _, [.inl d4], hp4, mc4, ms4, _) => (match ip_T jc pc4 with
          | some (.ireturn, _, _, _, 0) => bif Nat.beq (ip_kd jc) 3 && (Nat.ble as.length (ip_mx jc) && (Nat.ble mc4 (ip_bc jc) && (Nat.ble ms4 (ip_bs jc) && (Nat.ble (mc + ip_bc jc) (ip_bc j) && Nat.ble (ms + ip_bs jc) (ip_bs j))))) then some (pc, ls, .inl d4 :: st, hp4, mc + ip_bc jc, ms + ip_bs jc, false) else none
          | _ => none)
        | _ => none)))
noncomputable def ip_body (ops : ip_O D) (ro : List (List D)) (hd : Nat → Nat) (sp : Nat → Nat → Bool) (ih : Nat → ip_Fr D → Option (ip_Fr D)) (j : Nat) (f : ip_Fr D) : Option (ip_Fr D) := match ip_T j f.1 with
  | none => none
  | some x => bif ip_stop x || sp j f.1 then some f else (match ip_step ops ro (ip_bc j) (ip_bs j) x f with
    | none => none
    | some (.inl f') => ih j f'
    | some (.inr (jc, as, f')) => bif Nat.beq x.2.2.2.2 8 then
        (match ip_cat2 ih hd j jc as f' with
        | none => none
        | some f2 => ih j f2)
      else (match ip_cal ops ih j jc as f' with
        | none => none
        | some f2 => ih j f2))
noncomputable def ip_run (ops : ip_O D) (ro : List (List D)) (hd : Nat → Nat) (sp : Nat → Nat → Bool) (n : Nat) : Nat → ip_Fr D → Option (ip_Fr D) :=
  Nat.rec (motive := fun _ => Nat → ip_Fr D → Option (ip_Fr D)) (fun _ _ => none) (fun _ ih => ip_body ops ro hd sp ih) n
end Run
def ip_bI (o : Nat) (u v : Int32) : Int32 := match o with
  | 0 => u + v
  | 1 => u - v
  | 2 => u * v
  | 3 => u / v
  | 4 => u - u / v * v
  | 5 => u &&& v
  | 6 => u >>> (v &&& 31)
  | 7 => (u.toUInt32 >>> (v.toUInt32 &&& Int32.toUInt32 31)).toInt32
  | 8 => -u
  | _ => lg_cmp u.toInt64 v.toInt64
def ip_cI (o : Nat) (u v : Int32) : Bool := match o with
  | 0 => decide (u = v)
  | 1 => decide (¬ u = v)
  | 2 => decide (u < v)
  | 3 => decide (v ≤ u)
  | 4 => decide (v < u)
  | _ => decide (u ≤ v)
/-- a domain's numbers stand for ints -/
def ip_okO {D : Type} (R : D → Int32 → Prop) (ops : ip_O D) : Prop :=
  (∀ i, R (ops.1 i) i) ∧ (∀ o x y z u v, ops.2.1 o x y = some z → R x u → R y v → (o = 3 ∨ o = 4 → ¬ v = 0) ∧ R z (ip_bI o u v)) ∧
  (∀ o x y t u v, ops.2.2.1 o x y = some t → R x u → R y v → ip_cI o u v = t) ∧ ∀ x i u, ops.2.2.2 x = some i → R x u → u = i
