section
def ip_oc (j : Nat) : Nat := bif Nat.ble 104 j then (bif Nat.ble 156 j then (bif Nat.ble 182 j then (bif Nat.ble 195 j then (bif Nat.ble 201 j then (bif Nat.ble 204 j then (bif Nat.ble 206 j then (bif Nat.ble 207 j then (6) else (6)) else (bif Nat.ble 205 j then (6) else (5))) else (bif Nat.ble 202 j then (bif Nat.ble 203 j then (5) else (5)) else (5))) else (bif Nat.ble 198 j then (bif Nat.ble 199 j then (bif Nat.ble 200 j then (5) else (5)) else (5)) else (bif Nat.ble 196 j then (bif Nat.ble 197 j then (5) else (5)) else (5)))) else (bif Nat.ble 188 j then (bif Nat.ble 191 j then (bif Nat.ble 193 j then (bif Nat.ble 194 j then (5) else (5)) else (bif Nat.ble 192 j then (5) else (5))) else (bif Nat.ble 189 j then (bif Nat.ble 190 j then (5) else (5)) else (5))) else (bif Nat.ble 185 j then (bif Nat.ble 186 j then (bif Nat.ble 187 j then (5) else (5)) else (5)) else (bif Nat.ble 183 j then (bif Nat.ble 184 j then (5) else (5)) else (5))))) else (bif Nat.ble 169 j then (bif Nat.ble 175 j then (bif Nat.ble 178 j then (bif Nat.ble 180 j then (bif Nat.ble 181 j then (5) else (5)) else (bif Nat.ble 179 j then (5) else (5))) else (bif Nat.ble 176 j then (bif Nat.ble 177 j then (5) else (5)) else (5))) else (bif Nat.ble 172 j then (bif Nat.ble 173 j then (bif Nat.ble 174 j then (5) else (5)) else (5)) else (bif Nat.ble 170 j then (bif Nat.ble 171 j then (5) else (5)) else (5)))) else (bif Nat.ble 162 j then (bif Nat.ble 165 j then (bif Nat.ble 167 j then (bif Nat.ble 168 j then (5) else (5)) else (bif Nat.ble 166 j then (5) else (5))) else (bif Nat.ble 163 j then (bif Nat.ble 164 j then (5) else (5)) else (5))) else (bif Nat.ble 159 j then (bif Nat.ble 160 j then (bif Nat.ble 161 j then (5) else (5)) else (5)) else (bif Nat.ble 157 j then (bif Nat.ble 158 j then (5) else (5)) else (5)))))) else (bif Nat.ble 130 j then (bif Nat.ble 143 j then (bif Nat.ble 149 j then (bif Nat.ble 152 j then (bif Nat.ble 154 j then (bif Nat.ble 155 j then (5) else (5)) else (bif Nat.ble 153 j then (5) else (5))) else (bif Nat.ble 150 j then (bif Nat.ble 151 j then (5) else (5)) else (5))) else (bif Nat.ble 146 j then (bif Nat.ble 147 j then (bif Nat.ble 148 j then (5) else (5)) else (5)) else (bif Nat.ble 144 j then (bif Nat.ble 145 j then (5) else (5)) else (5)))) else (bif Nat.ble 136 j then (bif Nat.ble 139 j then (bif Nat.ble 141 j then (bif Nat.ble 142 j then (5) else (5)) else (bif Nat.ble 140 j then (5) else (5))) else (bif Nat.ble 137 j then (bif Nat.ble 138 j then (5) else (5)) else (5))) else (bif Nat.ble 133 j then (bif Nat.ble 134 j then (bif Nat.ble 135 j then (5) else (5)) else (5)) else (bif Nat.ble 131 j then (bif Nat.ble 132 j then (5) else (5)) else (5))))) else (bif Nat.ble 117 j then (bif Nat.ble 123 j then (bif Nat.ble 126 j then (bif Nat.ble 128 j then (bif Nat.ble 129 j then (5) else (5)) else (bif Nat.ble 127 j then (5) else (5))) else (bif Nat.ble 124 j then (bif Nat.ble 125 j then (5) else (5)) else (5))) else (bif Nat.ble 120 j then (bif Nat.ble 121 j then (bif Nat.ble 122 j then (4) else (4)) else (4)) else (bif Nat.ble 118 j then (bif Nat.ble 119 j then (4) else (4)) else (4)))) else (bif Nat.ble 110 j then (bif Nat.ble 113 j then (bif Nat.ble 115 j then (bif Nat.ble 116 j then (4) else (4)) else (bif Nat.ble 114 j then (4) else (4))) else (bif Nat.ble 111 j then (bif Nat.ble 112 j then (4) else (4)) else (4))) else (bif Nat.ble 107 j then (bif Nat.ble 108 j then (bif Nat.ble 109 j then (4) else (4)) else (4)) else (bif Nat.ble 105 j then (bif Nat.ble 106 j then (4) else (4)) else (4))))))) else (bif Nat.ble 52 j then (bif Nat.ble 78 j then (bif Nat.ble 91 j then (bif Nat.ble 97 j then (bif Nat.ble 100 j then (bif Nat.ble 102 j then (bif Nat.ble 103 j then (4) else (4)) else (bif Nat.ble 101 j then (4) else (4))) else (bif Nat.ble 98 j then (bif Nat.ble 99 j then (4) else (4)) else (4))) else (bif Nat.ble 94 j then (bif Nat.ble 95 j then (bif Nat.ble 96 j then (4) else (4)) else (4)) else (bif Nat.ble 92 j then (bif Nat.ble 93 j then (4) else (4)) else (4)))) else (bif Nat.ble 84 j then (bif Nat.ble 87 j then (bif Nat.ble 89 j then (bif Nat.ble 90 j then (4) else (4)) else (bif Nat.ble 88 j then (4) else (4))) else (bif Nat.ble 85 j then (bif Nat.ble 86 j then (4) else (4)) else (4))) else (bif Nat.ble 81 j then (bif Nat.ble 82 j then (bif Nat.ble 83 j then (4) else (4)) else (4)) else (bif Nat.ble 79 j then (bif Nat.ble 80 j then (4) else (4)) else (4))))) else (bif Nat.ble 65 j then (bif Nat.ble 71 j then (bif Nat.ble 74 j then (bif Nat.ble 76 j then (bif Nat.ble 77 j then (4) else (4)) else (bif Nat.ble 75 j then (4) else (4))) else (bif Nat.ble 72 j then (bif Nat.ble 73 j then (4) else (4)) else (4))) else (bif Nat.ble 68 j then (bif Nat.ble 69 j then (bif Nat.ble 70 j then (4) else (4)) else (3)) else (bif Nat.ble 66 j then (bif Nat.ble 67 j then (3) else (3)) else (3)))) else (bif Nat.ble 58 j then (bif Nat.ble 61 j then (bif Nat.ble 63 j then (bif Nat.ble 64 j then (3) else (3)) else (bif Nat.ble 62 j then (3) else (3))) else (bif Nat.ble 59 j then (bif Nat.ble 60 j then (3) else (2)) else (2))) else (bif Nat.ble 55 j then (bif Nat.ble 56 j then (bif Nat.ble 57 j then (2) else (2)) else (2)) else (bif Nat.ble 53 j then (bif Nat.ble 54 j then (2) else (2)) else (2)))))) else (bif Nat.ble 26 j then (bif Nat.ble 39 j then (bif Nat.ble 45 j then (bif Nat.ble 48 j then (bif Nat.ble 50 j then (bif Nat.ble 51 j then (2) else (2)) else (bif Nat.ble 49 j then (2) else (2))) else (bif Nat.ble 46 j then (bif Nat.ble 47 j then (2) else (2)) else (2))) else (bif Nat.ble 42 j then (bif Nat.ble 43 j then (bif Nat.ble 44 j then (1) else (1)) else (1)) else (bif Nat.ble 40 j then (bif Nat.ble 41 j then (1) else (1)) else (1)))) else (bif Nat.ble 32 j then (bif Nat.ble 35 j then (bif Nat.ble 37 j then (bif Nat.ble 38 j then (1) else (1)) else (bif Nat.ble 36 j then (1) else (1))) else (bif Nat.ble 33 j then (bif Nat.ble 34 j then (1) else (1)) else (1))) else (bif Nat.ble 29 j then (bif Nat.ble 30 j then (bif Nat.ble 31 j then (1) else (1)) else (1)) else (bif Nat.ble 27 j then (bif Nat.ble 28 j then (1) else (1)) else (1))))) else (bif Nat.ble 13 j then (bif Nat.ble 19 j then (bif Nat.ble 22 j then (bif Nat.ble 24 j then (bif Nat.ble 25 j then (1) else (1)) else (bif Nat.ble 23 j then (0) else (0))) else (bif Nat.ble 20 j then (bif Nat.ble 21 j then (0) else (0)) else (0))) else (bif Nat.ble 16 j then (bif Nat.ble 17 j then (bif Nat.ble 18 j then (0) else (0)) else (0)) else (bif Nat.ble 14 j then (bif Nat.ble 15 j then (0) else (0)) else (0)))) else (bif Nat.ble 6 j then (bif Nat.ble 9 j then (bif Nat.ble 11 j then (bif Nat.ble 12 j then (0) else (0)) else (bif Nat.ble 10 j then (0) else (0))) else (bif Nat.ble 7 j then (bif Nat.ble 8 j then (0) else (0)) else (0))) else (bif Nat.ble 3 j then (bif Nat.ble 4 j then (bif Nat.ble 5 j then (0) else (0)) else (0)) else (bif Nat.ble 1 j then (bif Nat.ble 2 j then (0) else (0)) else (0)))))))
def ip_kd (j : Nat) : Nat := bif Nat.ble 104 j then (bif Nat.ble 156 j then (bif Nat.ble 182 j then (bif Nat.ble 195 j then (bif Nat.ble 201 j then (bif Nat.ble 204 j then (bif Nat.ble 206 j then (bif Nat.ble 207 j then (4) else (3)) else (bif Nat.ble 205 j then (3) else (0))) else (bif Nat.ble 202 j then (bif Nat.ble 203 j then (0) else (0)) else (0))) else (bif Nat.ble 198 j then (bif Nat.ble 199 j then (bif Nat.ble 200 j then (0) else (0)) else (0)) else (bif Nat.ble 196 j then (bif Nat.ble 197 j then (1) else (0)) else (0)))) else (bif Nat.ble 188 j then (bif Nat.ble 191 j then (bif Nat.ble 193 j then (bif Nat.ble 194 j then (0) else (0)) else (bif Nat.ble 192 j then (0) else (0))) else (bif Nat.ble 189 j then (bif Nat.ble 190 j then (0) else (0)) else (0))) else (bif Nat.ble 185 j then (bif Nat.ble 186 j then (bif Nat.ble 187 j then (0) else (1)) else (1)) else (bif Nat.ble 183 j then (bif Nat.ble 184 j then (0) else (0)) else (0))))) else (bif Nat.ble 169 j then (bif Nat.ble 175 j then (bif Nat.ble 178 j then (bif Nat.ble 180 j then (bif Nat.ble 181 j then (0) else (0)) else (bif Nat.ble 179 j then (0) else (0))) else (bif Nat.ble 176 j then (bif Nat.ble 177 j then (0) else (0)) else (0))) else (bif Nat.ble 172 j then (bif Nat.ble 173 j then (bif Nat.ble 174 j then (0) else (0)) else (0)) else (bif Nat.ble 170 j then (bif Nat.ble 171 j then (0) else (0)) else (0)))) else (bif Nat.ble 162 j then (bif Nat.ble 165 j then (bif Nat.ble 167 j then (bif Nat.ble 168 j then (0) else (1)) else (bif Nat.ble 166 j then (0) else (0))) else (bif Nat.ble 163 j then (bif Nat.ble 164 j then (0) else (0)) else (0))) else (bif Nat.ble 159 j then (bif Nat.ble 160 j then (bif Nat.ble 161 j then (0) else (0)) else (0)) else (bif Nat.ble 157 j then (bif Nat.ble 158 j then (0) else (0)) else (0)))))) else (bif Nat.ble 130 j then (bif Nat.ble 143 j then (bif Nat.ble 149 j then (bif Nat.ble 152 j then (bif Nat.ble 154 j then (bif Nat.ble 155 j then (0) else (0)) else (bif Nat.ble 153 j then (0) else (0))) else (bif Nat.ble 150 j then (bif Nat.ble 151 j then (0) else (0)) else (0))) else (bif Nat.ble 146 j then (bif Nat.ble 147 j then (bif Nat.ble 148 j then (0) else (0)) else (0)) else (bif Nat.ble 144 j then (bif Nat.ble 145 j then (0) else (0)) else (0)))) else (bif Nat.ble 136 j then (bif Nat.ble 139 j then (bif Nat.ble 141 j then (bif Nat.ble 142 j then (1) else (1)) else (bif Nat.ble 140 j then (0) else (0))) else (bif Nat.ble 137 j then (bif Nat.ble 138 j then (0) else (0)) else (0))) else (bif Nat.ble 133 j then (bif Nat.ble 134 j then (bif Nat.ble 135 j then (0) else (0)) else (0)) else (bif Nat.ble 131 j then (bif Nat.ble 132 j then (0) else (0)) else (0))))) else (bif Nat.ble 117 j then (bif Nat.ble 123 j then (bif Nat.ble 126 j then (bif Nat.ble 128 j then (bif Nat.ble 129 j then (0) else (0)) else (bif Nat.ble 127 j then (0) else (0))) else (bif Nat.ble 124 j then (bif Nat.ble 125 j then (0) else (1)) else (2))) else (bif Nat.ble 120 j then (bif Nat.ble 121 j then (bif Nat.ble 122 j then (1) else (1)) else (1)) else (bif Nat.ble 118 j then (bif Nat.ble 119 j then (1) else (1)) else (1)))) else (bif Nat.ble 110 j then (bif Nat.ble 113 j then (bif Nat.ble 115 j then (bif Nat.ble 116 j then (1) else (0)) else (bif Nat.ble 114 j then (0) else (0))) else (bif Nat.ble 111 j then (bif Nat.ble 112 j then (0) else (0)) else (0))) else (bif Nat.ble 107 j then (bif Nat.ble 108 j then (bif Nat.ble 109 j then (0) else (0)) else (0)) else (bif Nat.ble 105 j then (bif Nat.ble 106 j then (0) else (0)) else (0))))))) else (bif Nat.ble 52 j then (bif Nat.ble 78 j then (bif Nat.ble 91 j then (bif Nat.ble 97 j then (bif Nat.ble 100 j then (bif Nat.ble 102 j then (bif Nat.ble 103 j then (0) else (0)) else (bif Nat.ble 101 j then (0) else (0))) else (bif Nat.ble 98 j then (bif Nat.ble 99 j then (0) else (0)) else (0))) else (bif Nat.ble 94 j then (bif Nat.ble 95 j then (bif Nat.ble 96 j then (0) else (0)) else (0)) else (bif Nat.ble 92 j then (bif Nat.ble 93 j then (0) else (0)) else (0)))) else (bif Nat.ble 84 j then (bif Nat.ble 87 j then (bif Nat.ble 89 j then (bif Nat.ble 90 j then (0) else (0)) else (bif Nat.ble 88 j then (0) else (0))) else (bif Nat.ble 85 j then (bif Nat.ble 86 j then (0) else (0)) else (0))) else (bif Nat.ble 81 j then (bif Nat.ble 82 j then (bif Nat.ble 83 j then (0) else (0)) else (0)) else (bif Nat.ble 79 j then (bif Nat.ble 80 j then (0) else (0)) else (0))))) else (bif Nat.ble 65 j then (bif Nat.ble 71 j then (bif Nat.ble 74 j then (bif Nat.ble 76 j then (bif Nat.ble 77 j then (0) else (0)) else (bif Nat.ble 75 j then (0) else (0))) else (bif Nat.ble 72 j then (bif Nat.ble 73 j then (0) else (0)) else (0))) else (bif Nat.ble 68 j then (bif Nat.ble 69 j then (bif Nat.ble 70 j then (0) else (2)) else (0)) else (bif Nat.ble 66 j then (bif Nat.ble 67 j then (0) else (0)) else (0)))) else (bif Nat.ble 58 j then (bif Nat.ble 61 j then (bif Nat.ble 63 j then (bif Nat.ble 64 j then (0) else (0)) else (bif Nat.ble 62 j then (0) else (0))) else (bif Nat.ble 59 j then (bif Nat.ble 60 j then (2) else (0)) else (0))) else (bif Nat.ble 55 j then (bif Nat.ble 56 j then (bif Nat.ble 57 j then (0) else (0)) else (1)) else (bif Nat.ble 53 j then (bif Nat.ble 54 j then (0) else (0)) else (0)))))) else (bif Nat.ble 26 j then (bif Nat.ble 39 j then (bif Nat.ble 45 j then (bif Nat.ble 48 j then (bif Nat.ble 50 j then (bif Nat.ble 51 j then (0) else (0)) else (bif Nat.ble 49 j then (0) else (0))) else (bif Nat.ble 46 j then (bif Nat.ble 47 j then (0) else (0)) else (2))) else (bif Nat.ble 42 j then (bif Nat.ble 43 j then (bif Nat.ble 44 j then (0) else (0)) else (0)) else (bif Nat.ble 40 j then (bif Nat.ble 41 j then (0) else (0)) else (0)))) else (bif Nat.ble 32 j then (bif Nat.ble 35 j then (bif Nat.ble 37 j then (bif Nat.ble 38 j then (0) else (0)) else (bif Nat.ble 36 j then (0) else (0))) else (bif Nat.ble 33 j then (bif Nat.ble 34 j then (0) else (0)) else (0))) else (bif Nat.ble 29 j then (bif Nat.ble 30 j then (bif Nat.ble 31 j then (0) else (0)) else (0)) else (bif Nat.ble 27 j then (bif Nat.ble 28 j then (0) else (0)) else (0))))) else (bif Nat.ble 13 j then (bif Nat.ble 19 j then (bif Nat.ble 22 j then (bif Nat.ble 24 j then (bif Nat.ble 25 j then (0) else (2)) else (bif Nat.ble 23 j then (1) else (0))) else (bif Nat.ble 20 j then (bif Nat.ble 21 j then (0) else (0)) else (0))) else (bif Nat.ble 16 j then (bif Nat.ble 17 j then (bif Nat.ble 18 j then (0) else (0)) else (0)) else (bif Nat.ble 14 j then (bif Nat.ble 15 j then (0) else (0)) else (0)))) else (bif Nat.ble 6 j then (bif Nat.ble 9 j then (bif Nat.ble 11 j then (bif Nat.ble 12 j then (0) else (0)) else (bif Nat.ble 10 j then (0) else (0))) else (bif Nat.ble 7 j then (bif Nat.ble 8 j then (0) else (0)) else (0))) else (bif Nat.ble 3 j then (bif Nat.ble 4 j then (bif Nat.ble 5 j then (0) else (0)) else (0)) else (bif Nat.ble 1 j then (bif Nat.ble 2 j then (0) else (0)) else (2)))))))
theorem ip_ock_all : (List.range 208).all (fun j => match ip_ML[j]? with
    | none => true
    | some e => Nat.beq (ip_oc j) e.2.2.2.1 && Nat.beq (ip_kd j) e.2.2.2.2.1) = true := by decide +kernel
theorem ip_ock {j : Nat} {e : ip_ME} (he : ip_ML[j]? = some e) : ip_oc j = e.2.2.2.1 ∧ ip_kd j = e.2.2.2.2.1 := by
  have hn : j < 208 := (List.getElem?_eq_some_iff.mp he).1
  have h := List.all_eq_true.mp ip_ock_all j (List.mem_range.mpr hn)
  simp only [he, Bool.and_eq_true, Nat.beq_eq] at h
  exact h
/-! THE RUNNER: the bytecode run over a domain of ints; cells by their places from a base on -/
noncomputable def ip_nth {α : Type} (l : List α) (k : Nat) : Option α :=
  List.rec (motive := fun _ => Nat → Option α) (fun _ => none) (fun x _ ih k => Nat.rec (motive := fun _ => Option α) (some x) (fun k' _ => ih k') k) l k
noncomputable def ip_set {α : Type} (l : List α) (k : Nat) (v : α) : List α :=
  List.rec (motive := fun _ => Nat → List α) (fun _ => []) (fun x xs ih k => Nat.rec (motive := fun _ => List α) (v :: xs) (fun k' _ => x :: ih k') k) l k
theorem ip_nth_eq {α : Type} (l : List α) : ∀ k : Nat, ip_nth l k = l[k]? := by
  induction l with
  | nil => intro k; rfl
  | cons x xs ih => intro k; cases k with
    | zero => rfl
    | succ k => rw [List.getElem?_cons_succ]; exact ih k
theorem ip_set_eq {α : Type} (l : List α) (v : α) : ∀ k : Nat, ip_set l k v = l.set k v := by
  induction l with
  | nil => intro k; rfl
  | cons x xs ih => intro k; cases k with
    | zero => rfl
    | succ k => rw [List.set_cons_succ, ← ih k]; rfl
abbrev ip_V (D : Type) : Type := D ⊕ (D ⊕ (Option Nat ⊕ Nat))
abbrev ip_Hp (D : Type) : Type := List (Nat × List (ip_V D))
abbrev ip_Fr (D : Type) : Type := Nat × List (Option (ip_V D)) × List (ip_V D) × ip_Hp D × Nat × Nat × Bool
abbrev ip_O (D : Type) : Type := (Int32 → D) × (Nat → D → D → Option D) × (Nat → D → D → Option Bool) × (D → Option Int32)
abbrev ip_E : Type := Instr × Nat × Nat × Nat × Nat
def ip_cc (k : ClassFile.Cond) : Nat := match k with
  | .eq => 0
  | .ne => 1
  | .lt => 2
  | .ge => 3
  | .gt => 4
  | .le => 5
def ip_one {D : Type} (v : ip_V D) : Bool := match v with
  | .inr (.inl _) => false
  | _ => true
/-- the words that a stack takes -/
def ip_cat {D : Type} : List (ip_V D) → Nat
  | [] => 0
  | .inr (.inl _) :: r => 2 + ip_cat r
  | _ :: r => 1 + ip_cat r
def ip_bit (x : Option Int32) : Bool := match x with
  | some v => decide (v = 0) || decide (v = 1)
  | none => false
/-- a field's value at first, by its type -/
def ip_dv {D : Type} (z : D) (t : FieldType) : ip_V D := match t with
  | .int => .inl z
  | .boolean => .inl z
  | _ => .inr (.inr (.inl none))
/-- an index into a row: not below 0 -/
def ip_ix (x : Option Int32) : Option Nat := match x with
  | some v => if v < 0 then none else some v.toNatClampNeg
  | none => none
/-- a first cell is made first -/
def ip_ne {α : Type} (hp : List α) (mc : Nat) : Bool := match hp with
  | [] => Nat.beq mc 0
  | _ :: _ => true
section Run
variable {D : Type}
def ip_bin (ops : ip_O D) (o : Nat) (nx : Nat) (f : ip_Fr D) : Option (ip_Fr D ⊕ (Nat × List (ip_V D) × ip_Fr D)) := match f with
  | (_, ls, .inl y :: .inl x :: st, hp, mc, ms, fz) => (match ops.2.1 o x y with
    | some z => some (.inl (nx, ls, .inl z :: st, hp, mc, ms, fz))
    | none => none)
  | _ => none
def ip_br (t : Option Bool) (nx a : Nat) (ls : List (Option (ip_V D))) (st : List (ip_V D)) (hp : ip_Hp D) (mc ms : Nat) (fz : Bool) : Option (ip_Fr D ⊕ (Nat × List (ip_V D) × ip_Fr D)) := match t with
  | some true => some (.inl (a, ls, st, hp, mc, ms, fz))
  | some false => some (.inl (nx, ls, st, hp, mc, ms, fz))
  | none => none
noncomputable def ip_ald (ops : ip_O D) (kd : Nat) (nx : Nat) (f : ip_Fr D) : Option (ip_Fr D ⊕ (Nat × List (ip_V D) × ip_Fr D)) := match f with
  | (_, ls, .inl ix :: .inr (.inr (.inl (some q))) :: st, hp, mc, ms, fz) => (match ip_ix (ops.2.2.2 ix), ip_nth hp q with
    | some k, some (kd', cs) => bif Nat.beq kd kd' then (match ip_nth cs k with
      | some v => some (.inl (nx, ls, v :: st, hp, mc, ms, fz))
      | none => none) else none
    | _, _ => none)
  | _ => none
noncomputable def ip_ast (ops : ip_O D) (kd : Nat) (nx : Nat) (v : ip_V D) (f : ip_Fr D) : Option (ip_Fr D ⊕ (Nat × List (ip_V D) × ip_Fr D)) := match f with
  | (_, ls, .inl ix :: .inr (.inr (.inl (some q))) :: st, hp, mc, ms, fz) => (match ip_ix (ops.2.2.2 ix), ip_nth hp q with
    | some k, some (kd', cs) => bif Nat.beq kd kd' then (match ip_nth cs k with
      | some _ => some (.inl (nx, ls, st, ip_set hp q (kd, ip_set cs k v), mc, ms, fz))
      | none => none) else none
    | _, _ => none)
  | _ => none
noncomputable def ip_mka (ops : ip_O D) (rc rs kd : Nat) (z : ip_V D) (nx : Nat) (f : ip_Fr D) : Option (ip_Fr D ⊕ (Nat × List (ip_V D) × ip_Fr D)) := match f with
  | (_, ls, .inl x :: st, hp, mc, ms, true) => (match ip_ix (ops.2.2.2 x) with
    | some k => bif ip_ne hp mc && (Nat.ble (mc + 1) rc && (Nat.ble (ms + k) rs && Nat.ble k 1000)) then some (.inl (nx, ls, .inr (.inr (.inl (some hp.length))) :: st, hp ++ [(kd, List.replicate k z)], mc + 1, ms + k, true)) else none
    | none => none)
  | _ => none
/-- arguments off the stack, in their order -/
def ip_arg : Nat → List (ip_V D) → List (ip_V D) → Option (List (ip_V D) × List (ip_V D))
  | 0, acc, st => some (acc, st)
  | n + 1, acc, v :: st => bif ip_one v then ip_arg n (v :: acc) st else none
  | _ + 1, _, [] => none
def ip_inv (a b : Nat) (nx : Nat) (f : ip_Fr D) : Option (ip_Fr D ⊕ (Nat × List (ip_V D) × ip_Fr D)) := match f with
  | (_, ls, st, hp, mc, ms, fz) => (match ip_arg b [] st with
    | some (as, st') => bif ip_ne hp mc && Nat.ble (ip_cat st') 8 then some (.inr (a, as, (nx, ls, st', hp, mc, ms, fz))) else none
    | none => none)
def ip_sK (ops : ip_O D) (v : Int32) (nx : Nat) (f : ip_Fr D) : Option (ip_Fr D ⊕ (Nat × List (ip_V D) × ip_Fr D)) := match f with
  | (_, ls, st, hp, mc, ms, fz) => some (.inl (nx, ls, .inl (ops.1 v) :: st, hp, mc, ms, fz))
noncomputable def ip_sLd (k nx : Nat) (f : ip_Fr D) : Option (ip_Fr D ⊕ (Nat × List (ip_V D) × ip_Fr D)) := match f with
  | (_, ls, st, hp, mc, ms, fz) => (match ip_nth ls k with
      | some (some (.inl d)) => some (.inl (nx, ls, .inl d :: st, hp, mc, ms, fz))
      | _ => none)
noncomputable def ip_sLa (k nx : Nat) (f : ip_Fr D) : Option (ip_Fr D ⊕ (Nat × List (ip_V D) × ip_Fr D)) := match f with
  | (_, ls, st, hp, mc, ms, fz) => (match ip_nth ls k with
      | some (some (.inr (.inr (.inl (some q))))) => some (.inl (nx, ls, .inr (.inr (.inl (some q))) :: st, hp, mc, ms, fz))
      | some (some (.inr (.inr (.inr t)))) => some (.inl (nx, ls, .inr (.inr (.inr t)) :: st, hp, mc, ms, fz))
      | _ => none)
noncomputable def ip_sSt (k nx : Nat) (f : ip_Fr D) : Option (ip_Fr D ⊕ (Nat × List (ip_V D) × ip_Fr D)) := match f with
  | (_, ls, st, hp, mc, ms, fz) => (match st, ip_nth ls k with
      | .inl d :: st, some _ => some (.inl (nx, ip_set ls k (some (.inl d)), st, hp, mc, ms, fz))
      | _, _ => none)
noncomputable def ip_sSa (k nx : Nat) (f : ip_Fr D) : Option (ip_Fr D ⊕ (Nat × List (ip_V D) × ip_Fr D)) := match f with
  | (_, ls, st, hp, mc, ms, fz) => (match st, ip_nth ls k with
      | .inr (.inr (.inl (some q))) :: st, some _ => some (.inl (nx, ip_set ls k (some (.inr (.inr (.inl (some q))))), st, hp, mc, ms, fz))
      | _, _ => none)
noncomputable def ip_sInc (ops : ip_O D) (k : Nat) (v : Int) (nx : Nat) (f : ip_Fr D) : Option (ip_Fr D ⊕ (Nat × List (ip_V D) × ip_Fr D)) := match f with
  | (_, ls, st, hp, mc, ms, fz) => (match ip_nth ls k with
      | some (some (.inl d)) => (match ops.2.1 0 d (ops.1 (Int32.ofInt v)) with
        | some z => some (.inl (nx, ip_set ls k (some (.inl z)), st, hp, mc, ms, fz))
        | none => none)
      | _ => none)
def ip_sDup (nx : Nat) (f : ip_Fr D) : Option (ip_Fr D ⊕ (Nat × List (ip_V D) × ip_Fr D)) := match f with
  | (_, ls, st, hp, mc, ms, fz) => (match st with
      | v :: r => bif ip_one v then some (.inl (nx, ls, v :: v :: r, hp, mc, ms, fz)) else none
      | _ => none)
def ip_sDu2 (nx : Nat) (f : ip_Fr D) : Option (ip_Fr D ⊕ (Nat × List (ip_V D) × ip_Fr D)) := match f with
  | (_, ls, st, hp, mc, ms, fz) => (match st with
      | v :: w :: r => bif ip_one v && ip_one w then some (.inl (nx, ls, v :: w :: v :: w :: r, hp, mc, ms, fz)) else none
      | _ => none)
def ip_sPop (nx : Nat) (f : ip_Fr D) : Option (ip_Fr D ⊕ (Nat × List (ip_V D) × ip_Fr D)) := match f with
  | (_, ls, st, hp, mc, ms, fz) => (match st with
      | v :: r => bif ip_one v then some (.inl (nx, ls, r, hp, mc, ms, fz)) else none
      | _ => none)
def ip_sNeg (ops : ip_O D) (nx : Nat) (f : ip_Fr D) : Option (ip_Fr D ⊕ (Nat × List (ip_V D) × ip_Fr D)) := match f with
  | (_, ls, st, hp, mc, ms, fz) => (match st with
      | .inl x :: r => (match ops.2.1 8 x x with
        | some z => some (.inl (nx, ls, .inl z :: r, hp, mc, ms, fz))
        | none => none)
      | _ => none)
def ip_sI2l (nx : Nat) (f : ip_Fr D) : Option (ip_Fr D ⊕ (Nat × List (ip_V D) × ip_Fr D)) := match f with
  | (_, ls, st, hp, mc, ms, fz) => (match st with
      | .inl x :: r => some (.inl (nx, ls, .inr (.inl x) :: r, hp, mc, ms, fz))
      | _ => none)
def ip_sLc (ops : ip_O D) (nx : Nat) (f : ip_Fr D) : Option (ip_Fr D ⊕ (Nat × List (ip_V D) × ip_Fr D)) := match f with
  | (_, ls, st, hp, mc, ms, fz) => (match st with
      | .inr (.inl y) :: .inr (.inl x) :: r => (match ops.2.1 9 x y with
        | some z => some (.inl (nx, ls, .inl z :: r, hp, mc, ms, fz))
        | none => none)
      | _ => none)
def ip_sIf (ops : ip_O D) (k : ClassFile.Cond) (nx a : Nat) (f : ip_Fr D) : Option (ip_Fr D ⊕ (Nat × List (ip_V D) × ip_Fr D)) := match f with
  | (_, ls, st, hp, mc, ms, fz) => (match st with
      | .inl x :: r => ip_br (ops.2.2.1 (ip_cc k) x (ops.1 0)) nx a ls r hp mc ms fz
      | _ => none)
def ip_sIc (ops : ip_O D) (k : ClassFile.Cond) (nx a : Nat) (f : ip_Fr D) : Option (ip_Fr D ⊕ (Nat × List (ip_V D) × ip_Fr D)) := match f with
  | (_, ls, st, hp, mc, ms, fz) => (match st with
      | .inl y :: .inl x :: r => ip_br (ops.2.2.1 (ip_cc k) x y) nx a ls r hp mc ms fz
      | _ => none)
def ip_sGo (a : Nat) (f : ip_Fr D) : Option (ip_Fr D ⊕ (Nat × List (ip_V D) × ip_Fr D)) := match f with
  | (_, ls, st, hp, mc, ms, fz) => some (.inl (a, ls, st, hp, mc, ms, fz))
def ip_sTs (ops : ip_O D) (d lo hi : Int) (offs : Array Int) (f : ip_Fr D) : Option (ip_Fr D ⊕ (Nat × List (ip_V D) × ip_Fr D)) := match f with
  | (pc, ls, st, hp, mc, ms, fz) => (match st with
      | .inl x :: r => (match ops.2.2.2 x with
        | some v => if v.toInt < lo ∨ hi < v.toInt then (if (pc : Int) + d = ((((pc : Int) + d).toNat : Nat) : Int) then some (.inl (((pc : Int) + d).toNat, ls, r, hp, mc, ms, fz)) else none)
          else (match offs[(v.toInt - lo).toNat]? with
            | some o => if (pc : Int) + o = ((((pc : Int) + o).toNat : Nat) : Int) then some (.inl (((pc : Int) + o).toNat, ls, r, hp, mc, ms, fz)) else none
            | none => none)
        | none => if (pc : Int) + d = ((((pc : Int) + d).toNat : Nat) : Int) ∧ (Int32.ofInt lo).toInt = lo ∧ (Int32.ofInt hi).toInt = hi ∧ (ops.2.2.1 2 x (ops.1 (Int32.ofInt lo)) = some true ∨ ops.2.2.1 4 x (ops.1 (Int32.ofInt hi)) = some true) then some (.inl (((pc : Int) + d).toNat, ls, r, hp, mc, ms, fz)) else none)
      | _ => none)
def ip_sLs (ops : ip_O D) (d : Int) (ps : Array (Int × Int)) (f : ip_Fr D) : Option (ip_Fr D ⊕ (Nat × List (ip_V D) × ip_Fr D)) := match f with
  | (pc, ls, st, hp, mc, ms, fz) => (match st with
      | .inl x :: r => (match ops.2.2.2 x with
        | some v => if (ps.toList.zip (ps.toList.drop 1)).all (fun (a, next) => a.1 < next.1) = true ∧ (pc : Int) + Op.lookupswitch.offset ps.toList d v.toInt = ((((pc : Int) + Op.lookupswitch.offset ps.toList d v.toInt).toNat : Nat) : Int) then some (.inl (((pc : Int) + Op.lookupswitch.offset ps.toList d v.toInt).toNat, ls, r, hp, mc, ms, fz)) else none
        | none => none)
      | _ => none)
noncomputable def ip_sGf (nx a b : Nat) (f : ip_Fr D) : Option (ip_Fr D ⊕ (Nat × List (ip_V D) × ip_Fr D)) := match f with
  | (pc, ls, st, hp, mc, ms, fz) => (match st with
      | .inr (.inr (.inl (some q))) :: r => (match ip_nth hp q with
        | some (kd, fs) => bif Nat.beq kd a then (match ip_nth fs b with
          | some v => some (.inl (nx, ls, v :: r, hp, mc, ms, fz))
          | none => none) else none
        | none => none)
      | _ => none)
noncomputable def ip_sPf (ops : ip_O D) (nx a b c : Nat) (f : ip_Fr D) : Option (ip_Fr D ⊕ (Nat × List (ip_V D) × ip_Fr D)) := match f with
  | (pc, ls, st, hp, mc, ms, fz) => (match st with
      | v :: .inr (.inr (.inl (some q))) :: r => (match ip_nth hp q with
        | some (kd, fs) => bif Nat.beq kd a then (match ip_nth fs b with
          | some _ => (match v, c with
            | .inl d, 0 => some (.inl (nx, ls, r, ip_set hp q (a, ip_set fs b (.inl d)), mc, ms, fz))
            | .inl d, 1 => bif ip_bit (ops.2.2.2 d) then some (.inl (nx, ls, r, ip_set hp q (a, ip_set fs b (.inl d)), mc, ms, fz)) else none
            | .inr (.inr (.inl (some t))), 2 => some (.inl (nx, ls, r, ip_set hp q (a, ip_set fs b (.inr (.inr (.inl (some t))))), mc, ms, fz))
            | _, _ => none)
          | none => none) else none
        | none => none)
      | _ => none)
def ip_sGs (nx a : Nat) (f : ip_Fr D) : Option (ip_Fr D ⊕ (Nat × List (ip_V D) × ip_Fr D)) := match f with
  | (pc, ls, st, hp, mc, ms, fz) => some (.inl (nx, ls, .inr (.inr (.inr a)) :: st, hp, mc, ms, fz))
noncomputable def ip_sIal (ops : ip_O D) (ro : List (List D)) (nx : Nat) (f : ip_Fr D) : Option (ip_Fr D ⊕ (Nat × List (ip_V D) × ip_Fr D)) := match f with
  | (pc, ls, st, hp, mc, ms, fz) => (match st with
      | .inl ix :: .inr (.inr (.inr t)) :: r => (match ip_ix (ops.2.2.2 ix), ip_nth ro t with
        | some k, some ds => (match ip_nth ds k with
          | some d => some (.inl (nx, ls, .inl d :: r, hp, mc, ms, fz))
          | none => none)
        | _, _ => none)
      | _ => ip_ald ops 20 nx (pc, ls, st, hp, mc, ms, fz))
noncomputable def ip_sIas (ops : ip_O D) (nx : Nat) (f : ip_Fr D) : Option (ip_Fr D ⊕ (Nat × List (ip_V D) × ip_Fr D)) := match f with
  | (pc, ls, st, hp, mc, ms, fz) => (match st with
      | .inl d :: r => ip_ast ops 20 nx (.inl d) (pc, ls, r, hp, mc, ms, fz)
      | _ => none)
noncomputable def ip_sBas (ops : ip_O D) (nx : Nat) (f : ip_Fr D) : Option (ip_Fr D ⊕ (Nat × List (ip_V D) × ip_Fr D)) := match f with
  | (pc, ls, st, hp, mc, ms, fz) => (match st with
      | .inl d :: r => bif ip_bit (ops.2.2.2 d) then ip_ast ops 21 nx (.inl d) (pc, ls, r, hp, mc, ms, fz) else none
      | _ => none)
noncomputable def ip_sLas (ops : ip_O D) (nx : Nat) (f : ip_Fr D) : Option (ip_Fr D ⊕ (Nat × List (ip_V D) × ip_Fr D)) := match f with
  | (pc, ls, st, hp, mc, ms, fz) => (match st with
      | .inr (.inl d) :: r => ip_ast ops 22 nx (.inr (.inl d)) (pc, ls, r, hp, mc, ms, fz)
      | _ => none)
noncomputable def ip_sLen (ops : ip_O D) (ro : List (List D)) (nx : Nat) (f : ip_Fr D) : Option (ip_Fr D ⊕ (Nat × List (ip_V D) × ip_Fr D)) := match f with
  | (pc, ls, st, hp, mc, ms, fz) => (match st with
      | .inr (.inr (.inr t)) :: r => (match ip_nth ro t with
        | some ds => some (.inl (nx, ls, .inl (ops.1 (Int32.ofNat ds.length)) :: r, hp, mc, ms, fz))
        | none => none)
      | _ => none)
def ip_sNew (ops : ip_O D) (rc rs nx a c : Nat) (f : ip_Fr D) : Option (ip_Fr D ⊕ (Nat × List (ip_V D) × ip_Fr D)) := match f with
  | (pc, ls, st, hp, mc, ms, fz) => (match c, fz with
      | 0, true => bif ip_ne hp mc && (Nat.ble (mc + 1) rc && Nat.ble (ms + ip_N a) rs) then some (.inl (nx, ls, .inr (.inr (.inl (some hp.length))) :: st, hp ++ [(a, (List.range (ip_N a)).map (fun k => ip_dv (ops.1 0) (ip_Y a k)))], mc + 1, ms + ip_N a, true)) else none
      | _, _ => none)
def ip_sIs (ops : ip_O D) (rc rs nx a b c : Nat) (f : ip_Fr D) : Option (ip_Fr D ⊕ (Nat × List (ip_V D) × ip_Fr D)) := match f with
  | (pc, ls, st, hp, mc, ms, fz) => (match c with
      | 4 => (match st with
        | .inl y :: .inl x :: r => bif Nat.ble (ip_cat r) 8 && (Nat.ble mc rc && Nat.ble ms rs) then (match ops.2.2.1 2 x y with
          | some true => some (.inl (nx, ls, .inl y :: r, hp, mc, ms, fz))
          | some false => some (.inl (nx, ls, .inl x :: r, hp, mc, ms, fz))
          | none => none) else none
        | _ => none)
      | _ => ip_inv a b nx (pc, ls, st, hp, mc, ms, fz))
def ip_sIp (nx a b c : Nat) (f : ip_Fr D) : Option (ip_Fr D ⊕ (Nat × List (ip_V D) × ip_Fr D)) := match f with
  | (pc, ls, st, hp, mc, ms, fz) => (match c with
      | 2 => ip_inv a (b + 1) nx (pc, ls, st, hp, mc, ms, fz)
      | 3 => (match st with
        | .inr (.inr (.inl (some _))) :: r => bif Nat.ble (ip_cat r) 8 then some (.inl (nx, ls, r, hp, mc, ms, fz)) else none
        | _ => none)
      | _ => none)
noncomputable def ip_step (ops : ip_O D) (ro : List (List D)) (rc rs : Nat) (x : ip_E) (f : ip_Fr D) : Option (ip_Fr D ⊕ (Nat × List (ip_V D) × ip_Fr D)) :=
  match x with
  | (i, nx, a, b, c) => match i with
    | .iconst v => ip_sK ops (Int32.ofInt v) nx f
    | .bipush v => ip_sK ops (Int8.ofInt v).toInt32 nx f
    | .sipush v => ip_sK ops (Int16.ofInt v).toInt32 nx f
    | .iload k => ip_sLd k nx f
    | .iload_n k => ip_sLd k.val nx f
    | .aload k => ip_sLa k nx f
    | .aload_n k => ip_sLa k.val nx f
    | .istore k => ip_sSt k nx f
    | .istore_n k => ip_sSt k.val nx f
    | .astore k => ip_sSa k nx f
    | .astore_n k => ip_sSa k.val nx f
    | .iinc k v => ip_sInc ops k v nx f
    | .dup => ip_sDup nx f
    | .dup2 => ip_sDu2 nx f
    | .pop => ip_sPop nx f
    | .iadd => ip_bin ops 0 nx f
    | .isub => ip_bin ops 1 nx f
    | .imul => ip_bin ops 2 nx f
    | .idiv => ip_bin ops 3 nx f
    | .irem => ip_bin ops 4 nx f
    | .iand => ip_bin ops 5 nx f
    | .ishr => ip_bin ops 6 nx f
    | .iushr => ip_bin ops 7 nx f
    | .ineg => ip_sNeg ops nx f
    | .i2l => ip_sI2l nx f
    | .lcmp => ip_sLc ops nx f
    | .ifCond k _ => ip_sIf ops k nx a f
    | .if_icmp k _ => ip_sIc ops k nx a f
    | .goto _ => ip_sGo a f
    | .tableswitch d lo hi offs => ip_sTs ops d lo hi offs f
    | .lookupswitch d ps => ip_sLs ops d ps f
    | .getfield _ => ip_sGf nx a b f
    | .putfield _ => ip_sPf ops nx a b c f
    | .getstatic _ => ip_sGs nx a f
    | .iaload => ip_sIal ops ro nx f
    | .baload => ip_ald ops 21 nx f
    | .laload => ip_ald ops 22 nx f
    | .iastore => ip_sIas ops nx f
    | .bastore => ip_sBas ops nx f
    | .lastore => ip_sLas ops nx f
    | .arraylength => ip_sLen ops ro nx f
    | .newarray .int => ip_mka ops rc rs 20 (.inl (ops.1 0)) nx f
    | .newarray .boolean => ip_mka ops rc rs 21 (.inl (ops.1 0)) nx f
    | .newarray .long => ip_mka ops rc rs 22 (.inr (.inl (ops.1 0))) nx f
    | .new _ => ip_sNew ops rc rs nx a c f
    | .invokevirtual _ => ip_inv a (b + 1) nx f
    | .invokestatic _ => ip_sIs ops rc rs nx a b c f
    | .invokespecial _ => ip_sIp nx a b c f
    | _ => none
/-- where a run stops: a return, the throw, the call that may throw -/
def ip_stop (x : ip_E) : Bool := match x.1, x.2.2.2.2 with
  | .ireturn, _ => true
  | .areturn, _ => true
  | .return_, _ => true
  | .new _, 9 => true
  | .invokevirtual _, 9 => true
  | _, _ => false
/-- the value that comes back of a frame that stopped at a return -/
noncomputable def ip_back (ops : ip_O D) (x : ip_E) (st : List (ip_V D)) : Option (List (ip_V D)) := match x.1, x.2.2.2.2, st with
  | .ireturn, 0, [.inl d] => some [.inl d]
  | .ireturn, 1, [.inl d] => bif ip_bit (ops.2.2.2 d) then some [.inl d] else none
  | .areturn, _, [.inr (.inr (.inl (some q)))] => some [.inr (.inr (.inl (some q)))]
  | .return_, _, [] => some []
  | _, _, _ => none
noncomputable def ip_ent (jc : Nat) (as : List (ip_V D)) (hp : ip_Hp D) (fz : Bool) : ip_Fr D := (0, as.map some ++ List.replicate (ip_mx jc - as.length) none, [], hp, 0, 0, fz)
/-- a virtual call's receiver is an object of the callee's class; a constructor's an object -/
noncomputable def ip_rcv (hp : ip_Hp D) (kd oc : Nat) (as : List (ip_V D)) : Bool := match kd with
  | 0 => (match as with
    | .inr (.inr (.inl (some q))) :: _ => (match ip_nth hp q with
      | some (k, _) => Nat.beq k oc && Nat.ble (k + 1) 6
      | none => false)
    | _ => false)
  | 1 => true
  | 2 => (match as with
    | .inr (.inr (.inl (some _))) :: _ => true
    | _ => false)
  | _ => false
/-- a plain call -/
noncomputable def ip_cal (ops : ip_O D) (ih : Nat → ip_Fr D → Option (ip_Fr D)) (j jc : Nat) (as : List (ip_V D)) (f : ip_Fr D) : Option (ip_Fr D) := match f with
  | (pc, ls, st, hp, mc, ms, fz) => (match ih jc (ip_ent jc as hp fz) with
    | none => none
    | some (pc', _, st', hp', mc', ms', fz') => (match ip_T jc pc' with
      | none => none
      | some x => (match ip_back ops x st' with
        | none => none
        | some vs => bif ip_rcv hp (ip_kd jc) (ip_oc jc) as && ((!fz' || fz) && (Nat.ble as.length (ip_mx jc) && (Nat.beq mc' (ip_bc jc) && (Nat.ble ms' (ip_bs jc) && (Nat.ble (mc + ip_bc jc) (ip_bc j) && Nat.ble (ms + ip_bs jc) (ip_bs j)))))) then some (pc, ls, vs ++ st, hp', mc + ip_bc jc, ms + ip_bs jc, fz') else none)))
/-- a method that may throw: its answer, or none; and its cells -/
noncomputable def ip_thr (ih : Nat → ip_Fr D → Option (ip_Fr D)) (jt : Nat) (as : List (ip_V D)) (hp : ip_Hp D) : Option (Option D × ip_Hp D) := match ih jt (ip_ent jt as hp false) with
  | some (pc', _, st', hp', 0, 0, _) => (match ip_T jt pc' with
    | none => none
    | some x => (match x.1, x.2.2.2.2, st' with
      | .ireturn, 0, [.inl d] => some (some d, hp')
      | .new _, 9, [] => some (none, hp')
      | _, _, _ => none))
  | _ => none
/-- where a method that tries another goes on -/
noncomputable def ip_tr2 (ih : Nat → ip_Fr D → Option (ip_Fr D)) (hd : Nat → Nat) (jc : Nat) (f : ip_Fr D) : Option (ip_Fr D) := match f with
  | (pc1, ls1, st1, hp1, 0, 0, _) => (match ip_T jc pc1 with
    | some (.invokevirtual _, nx1, jt, b, 9) => (match ip_arg (b + 1) [] st1 with
      | none => none
      | some (as1, st2) => bif ip_rcv hp1 0 (ip_oc jt) as1 && (Nat.ble as1.length (ip_mx jt) && (Nat.ble (ip_cat st2) 8 && (Nat.ble (ip_bc jt) (ip_bc jc) && Nat.ble (ip_bs jt) (ip_bs jc)))) then (match ip_thr ih jt as1 hp1 with
        | none => none
        | some (some d, hp3) => some (nx1, ls1, .inl d :: st2, hp3, ip_bc jt, ip_bs jt, false)
        | some (none, hp3) => some (hd jc, ls1.map (fun _ => none), [], hp3, ip_bc jt, ip_bs jt, false)) else none)
    | _ => none)
  | _ => none
/-- a call of a method that tries another -/
noncomputable def ip_cat2 (ih : Nat → ip_Fr D → Option (ip_Fr D)) (hd : Nat → Nat) (j jc : Nat) (as : List (ip_V D)) (f : ip_Fr D) : Option (ip_Fr D) := match f with
  | (pc, ls, st, hp, mc, ms, _) => (match ih jc (ip_ent jc as hp false) with
    | none => none
    | some f1 => (match ip_tr2 ih hd jc f1 with
      | none => none
      | some f2 => (match ih jc f2 with
        | some (pc4, _, [.inl d4], hp4, mc4, ms4, _) => (match ip_T jc pc4 with
          | some (.ireturn, _, _, _, 0) => bif Nat.beq (ip_kd jc) 3 && (Nat.ble as.length (ip_mx jc) && (Nat.ble mc4 (ip_bc jc) && (Nat.ble ms4 (ip_bs jc) && (Nat.ble (mc + ip_bc jc) (ip_bc j) && Nat.ble (ms + ip_bs jc) (ip_bs j))))) then some (pc, ls, .inl d4 :: st, hp4, mc + ip_bc jc, ms + ip_bs jc, false) else none
          | _ => none)
        | _ => none)))
noncomputable def ip_body (ops : ip_O D) (ro : List (List D)) (hd : Nat → Nat) (sp : Nat → Nat → Bool) (ih : Nat → ip_Fr D → Option (ip_Fr D)) (j : Nat) (f : ip_Fr D) : Option (ip_Fr D) := match ip_T j f.1 with
  | none => none
  | some x => bif ip_stop x || sp j f.1 then some f else (match ip_step ops ro (ip_bc j) (ip_bs j) x f with
    | none => none
    | some (.inl f') => ih j f'
    | some (.inr (jc, as, f')) => bif Nat.beq x.2.2.2.2 8 then
        (match ip_cat2 ih hd j jc as f' with
        | none => none
        | some f2 => ih j f2)
      else (match ip_cal ops ih j jc as f' with
        | none => none
        | some f2 => ih j f2))
noncomputable def ip_run (ops : ip_O D) (ro : List (List D)) (hd : Nat → Nat) (sp : Nat → Nat → Bool) (n : Nat) : Nat → ip_Fr D → Option (ip_Fr D) :=
  Nat.rec (motive := fun _ => Nat → ip_Fr D → Option (ip_Fr D)) (fun _ _ => none) (fun _ ih => ip_body ops ro hd sp ih) n
end Run
def ip_bI (o : Nat) (u v : Int32) : Int32 := match o with
  | 0 => u + v
  | 1 => u - v
  | 2 => u * v
  | 3 => u / v
  | 4 => u - u / v * v
  | 5 => u &&& v
  | 6 => u >>> (v &&& 31)
  | 7 => (u.toUInt32 >>> (v.toUInt32 &&& Int32.toUInt32 31)).toInt32
  | 8 => -u
  | _ => lg_cmp u.toInt64 v.toInt64
def ip_cI (o : Nat) (u v : Int32) : Bool := match o with
  | 0 => decide (u = v)
  | 1 => decide (¬ u = v)
  | 2 => decide (u < v)
  | 3 => decide (v ≤ u)
  | 4 => decide (v < u)
  | _ => decide (u ≤ v)
/-- a domain's numbers stand for ints -/
def ip_okO {D : Type} (R : D → Int32 → Prop) (ops : ip_O D) : Prop :=
  (∀ i, R (ops.1 i) i) ∧ (∀ o x y z u v, ops.2.1 o x y = some z → R x u → R y v → (o = 3 ∨ o = 4 → ¬ v = 0) ∧ R z (ip_bI o u v)) ∧
  (∀ o x y t u v, ops.2.2.1 o x y = some t → R x u → R y v → ip_cI o u v = t) ∧ ∀ x i u, ops.2.2.2 x = some i → R x u → u = i
end
section
/-! THE RUNNER IS SOUND: words -/
def ip_gR {D : Type} (R : D → Int32 → Prop) (base : Nat) (ra : Nat → Nat) (v : ip_V D) (w : Value) : Prop := match v with
  | .inl d => ∃ i, w = .int i ∧ R d i
  | .inr (.inl d) => ∃ i : Int32, w = .long i.toInt64 ∧ R d i
  | .inr (.inr (.inl none)) => w = .null
  | .inr (.inr (.inl (some k))) => w = .ref (base + k)
  | .inr (.inr (.inr t)) => w = .ref (ra t)
def ip_all2 {α β : Type} (P : α → β → Prop) : List α → List β → Prop
  | [], [] => True
  | a :: as, b :: bs => P a b ∧ ip_all2 P as bs
  | _, _ => False
theorem ip_all2_nil {α β : Type} {P : α → β → Prop} {bs : List β} (h : ip_all2 P [] bs) : bs = [] := by
  cases bs with
  | nil => rfl
  | cons b bs => exact h.elim
theorem ip_all2_cons {α β : Type} {P : α → β → Prop} {a : α} {as : List α} {bs : List β} (h : ip_all2 P (a :: as) bs) : ∃ b bs', bs = b :: bs' ∧ P a b ∧ ip_all2 P as bs' := by
  cases bs with
  | nil => exact h.elim
  | cons b bs => exact ⟨b, bs, rfl, h.1, h.2⟩
theorem ip_all2_app {α β : Type} {P : α → β → Prop} (as as' : List α) : ∀ (bs : List β), ip_all2 P (as ++ as') bs → ∃ b1 b2, bs = b1 ++ b2 ∧ ip_all2 P as b1 ∧ ip_all2 P as' b2 := by
  induction as with
  | nil => intro bs h; exact ⟨[], bs, rfl, trivial, h⟩
  | cons a as ih =>
    intro bs h
    obtain ⟨b, bs', rfl, h1, h2⟩ := ip_all2_cons h
    obtain ⟨b1, b2, rfl, h3, h4⟩ := ih bs' h2
    exact ⟨b :: b1, b2, rfl, ⟨h1, h3⟩, h4⟩
theorem ip_all2_mk {α β : Type} {P : α → β → Prop} {as as' : List α} : ∀ {bs bs' : List β}, ip_all2 P as bs → ip_all2 P as' bs' → ip_all2 P (as ++ as') (bs ++ bs') := by
  induction as with
  | nil => intro bs bs' h h'; rw [ip_all2_nil h]; exact h'
  | cons a as ih =>
    intro bs bs' h h'
    obtain ⟨b, bs1, rfl, h1, h2⟩ := ip_all2_cons h
    exact ⟨h1, ih h2 h'⟩
theorem ip_all2_rev {α β : Type} {P : α → β → Prop} {as : List α} : ∀ {bs : List β}, ip_all2 P as bs → ip_all2 P as.reverse bs.reverse := by
  induction as with
  | nil => intro bs h; rw [ip_all2_nil h]; trivial
  | cons a as ih =>
    intro bs h
    obtain ⟨b, bs1, rfl, h1, h2⟩ := ip_all2_cons h
    rw [List.reverse_cons, List.reverse_cons]
    exact ip_all2_mk (ih h2) ⟨h1, trivial⟩
theorem ip_all2_len {α β : Type} {P : α → β → Prop} {as : List α} : ∀ {bs : List β}, ip_all2 P as bs → as.length = bs.length := by
  induction as with
  | nil => intro bs h; rw [ip_all2_nil h]; rfl
  | cons a as ih =>
    intro bs h
    obtain ⟨b, bs1, rfl, h1, h2⟩ := ip_all2_cons h
    rw [List.length_cons, List.length_cons, ih h2]
theorem ip_all2_at {α β : Type} {P : α → β → Prop} {as : List α} : ∀ {bs : List β}, ip_all2 P as bs → ∀ (k : Nat) (a : α), as[k]? = some a → ∃ b, bs[k]? = some b ∧ P a b := by
  induction as with
  | nil => intro bs h k a ha; simp at ha
  | cons x as ih =>
    intro bs h k a ha
    obtain ⟨b, bs1, rfl, h1, h2⟩ := ip_all2_cons h
    cases k with
    | zero => simp at ha; subst ha; exact ⟨b, rfl, h1⟩
    | succ k => simp at ha; obtain ⟨c, h3, h4⟩ := ih h2 k a ha; exact ⟨c, by simpa using h3, h4⟩
section Words
variable {D : Type} (R : D → Int32 → Prop) (base : Nat) (ra : Nat → Nat) (cI cZ cJ : ClassId)
/-- a cell -/
def ip_cR (x : Nat × List (ip_V D)) (E : va_E) : Prop :=
  (x.1 < 6 ∧ ∃ fs : List Value, E = .inr (x.1, fs) ∧ ip_all2 (ip_gR R base ra) x.2 fs) ∨
  (x.1 = 20 ∧ ∃ f : Nat → Int32, E = .inl (cI, x.2.length, .inl f) ∧ ∀ k v, x.2[k]? = some v → ∃ d, v = .inl d ∧ R d (f k)) ∨
  (x.1 = 21 ∧ ∃ f : Nat → Int32, E = .inl (cZ, x.2.length, .inl f) ∧ ∀ k v, x.2[k]? = some v → ∃ d, v = .inl d ∧ R d (f k)) ∨
  (x.1 = 22 ∧ ∃ f : Nat → Int64, E = .inl (cJ, x.2.length, .inr (.inl f)) ∧ ∀ k v, x.2[k]? = some v → ∃ d i, v = .inr (.inl d) ∧ R d i ∧ f k = i.toInt64)
def ip_hR (hp : ip_Hp D) (ws : va_W) : Prop := ws.length = hp.length ∧ ∀ k x, hp[k]? = some x → ∃ E, ws[k]? = some (base + k, E) ∧ ip_cR R base ra cI cZ cJ x E
def ip_mL (nL : Nat) (la : List (Option (ip_V D))) (ls : Array Slot) : Prop := la.length = nL ∧ ∃ lv, lv_has ls nL lv ∧ ∀ k v, la[k]? = some (some v) → ∃ w, (k, w) ∈ lv ∧ w.category = 1 ∧ ip_gR R base ra v w
def ip_mH (Dg : va_G) (A : Nat → Prop) (s : State) (hp : ip_Hp D) (mc : Nat) (fz : Bool) (H : Heap) (locs : List Loc) : Prop :=
  (∃ ws, ip_hR R base ra cI cZ cJ hp ws ∧ va_P Dg vwCl ws H ∧ va_D A ws) ∧ va_S A s.heap H locs ∧ (fz = true → s.heap.size + mc = base + hp.length)
/-- the words of the throw -/
def ip_atS : List Cond := (ip_own RX4 131 ip_NSE).filter vx_no
def ip_B : List Cond := (ip_atS).filter (fun w => !goodWord w)
def ip_soft (w : Cond) : Bool := match w with
  | .castable _ _ => true
  | .declares _ => true
  | _ => false
theorem ip_B_soft : ip_B.all ip_soft = true := by decide +kernel
theorem ip_B_in : ∀ w ∈ ip_B, w ∈ lw_tbl := by decide +kernel
theorem ip_B_cast : Cond.castable ip_NSE ip_NSE ∈ ip_B := by decide +kernel
set_option maxRecDepth 20000 in
theorem ip_at_in0 : ∀ w ∈ (ip_atS).filter goodWord, w ∈ lw_tbl := by decide +kernel
theorem ip_at_in : ∀ w ∈ (ip_atS).filter goodWord, w ∈ ip_G := by
  intro w hw
  refine List.mem_filter.mpr ⟨?_, (List.mem_filter.mp hw).2⟩
  exact ip_at_in0 w hw
theorem ip_at_ot : ∀ w ∈ Cond.classLink RX4 127 ip_NSE :: Cond.initialized ip_NSE :: ip_atS, vx_ot w = true := by decide +kernel
def ip_tx (k : Nat) : String := match k with
  | 129 => "no such innings"
  | 171 => "nothing such is counted of an innings"
  | _ => "no such cut"
/-- what a throw needs of the state -/
def ip_xs (A : Nat → Prop) (U : State) : Prop := vx_Zq Bundle.tN "UNASSIGNED_STACK" Bundle.steD A U U.heap ∧ vx_Zq Bundle.tN "SUPPRESSED_SENTINEL" Bundle.listD A U U.heap ∧ (∀ w ∈ ip_B, va_Nw w U) ∧ ∀ k, k = 129 ∨ k = 171 ∨ k = 176 → ∃ sa, vk_R RX4 k (ip_tx k) sa U
theorem ip_soft_warm {w : Cond} {s U : State} (h : ip_soft w = true) (hW : s.WarmedH U.vm) (hZ : va_Nw w s) : va_Nw w U := by
  unfold ip_soft at h
  split at h
  · exact va_Nw.warmC hW hZ
  · exact va_Nw.warmD hW hZ
  · cases h
theorem ip_soft_same {w : Cond} {s U : State} (h : ip_soft w = true) (hv : s.vm = U.vm) (hZ : va_Nw w s) : va_Nw w U := by
  unfold ip_soft at h
  split at h
  · exact va_Nw.same rfl hv hZ
  · exact va_Nw.same rfl hv hZ
  · cases h
theorem ip_xs_to {A B : Nat → Prop} {s U : State} {H : Heap} {locs : List Loc} (h : ip_xs A s) (hS : va_S A s.heap H locs) (hAB : ∀ q, B q → A q) (hW : s.WarmedH U.vm) (hU : U.heap = H) : ip_xs B U := by
  subst hU
  obtain ⟨h1, h2, h3, h4⟩ := h
  refine ⟨vx_Zq.moved hW.alike (vx_Zq.narrow (vx_Zq.kept h1 hS.2.1) hAB), vx_Zq.moved hW.alike (vx_Zq.narrow (vx_Zq.kept h2 hS.2.1) hAB), fun w hw => ip_soft_warm (List.all_eq_true.mp ip_B_soft w hw) hW (h3 w hw), fun k hk => ?_⟩
  obtain ⟨sa, h5⟩ := h4 k hk
  exact ⟨sa, vk_R.warm hW h5⟩
theorem ip_xs_same {A : Nat → Prop} {s U : State} (h : ip_xs A s) (hv : U.vm = s.vm) (hU : U.heap = s.heap) : ip_xs A U := by
  obtain ⟨h1, h2, h3, h4⟩ := h
  have hal : s.vm.Alike U.vm := by rw [hv]; exact Vm.Alike.refl _
  refine ⟨by rw [hU]; exact vx_Zq.moved hal h1, by rw [hU]; exact vx_Zq.moved hal h2, fun w hw => ip_soft_same (List.all_eq_true.mp ip_B_soft w hw) hv.symm (h3 w hw), fun k hk => ?_⟩
  obtain ⟨sa, h5⟩ := h4 k hk
  exact ⟨sa, vk_R.same hv h5⟩
/-- rows that stay: the script, the statics; the throw's words -/
def ip_ro (ro : List (List D)) (A : Nat → Prop) (s : State) : Prop :=
  (∀ t ds, ro[t]? = some ds → ∃ xs : Nat → Int32, va_T .int (ra t) ds.length (fun k => .int (xs k)) A s s.heap ∧ ∀ k d, ds[k]? = some d → R d (xs k)) ∧
  (∀ t, t < 3 → va_Z RX2 (ip_sn t) "[I" (.ref (ra t)) A s s.heap) ∧ ip_xs A s
end Words
/-- what stands still in a method's body -/
def ip_Cx {D : Type} (R : D → Int32 → Prop) (ops : ip_O D) (p : Program) (s : State) (m : MethodId) (args : Array Value) (meth : Method) (c : Code) (bs : ByteArray) (cls kd nL : Nat) (Dg : va_G) (cI cZ cJ : ClassId) (A : Nat → Prop) (ra : Nat → Nat) (ro : List (List D)) : Prop :=
  ip_okO R ops ∧ p.tables.exec = Jvm.exec ∧ c.code = bs ∧ c.maxLocals = nL ∧ s.vm.findClass (ip_R cls) = some m.cls ∧ (∀ w ∈ ip_G, w.before args s = true) ∧
  va_K Dg vwCl [(cI, .int), (cZ, .boolean), (cJ, .long)] s ∧ (∀ q : Nat, s.heap.size ≤ q → A q) ∧ ip_ro R ra ro A s ∧ (kd = 2 → meth.name = "<init>")
def ip_good {D : Type} (R : D → Int32 → Prop) (p : Program) (l : Launch) (e : Env) (Rm : Room) (s : State) (m : MethodId) (args : Array Value) (below : List Frame) (meth : Method) (c : Code) (Q : State → Prop) (nL base : Nat) (Dg : va_G) (cI cZ cJ : ClassId) (A : Nat → Prop) (ra : Nat → Nat) (f : ip_Fr D) : Prop :=
  ∀ (ls : Array Slot) (st : List Value) (H : Heap) (locs : List Loc), ip_mL R base ra nL f.2.1 ls → ip_all2 (ip_gR R base ra) f.2.2.1 st → ip_mH R base ra cI cZ cJ Dg A s f.2.2.2.1 f.2.2.2.2.1 f.2.2.2.2.2.2 H locs →
    W p l e Rm s m args below meth c H locs f.2.2.2.2.1 f.2.2.2.2.2.1 Q (F0 m f.1 ls st)
theorem ip_one_cat {D : Type} {R : D → Int32 → Prop} {base : Nat} {ra : Nat → Nat} {v : ip_V D} {w : Value} (h : ip_one v = true) (hg : ip_gR R base ra v w) : w.category = 1 := by
  rcases v with d | d | (_ | k) | t
  · obtain ⟨i, rfl, -⟩ := hg; rfl
  · cases h
  · cases hg; rfl
  · cases hg; rfl
  · cases hg; rfl
theorem ip_mL_get {D : Type} {R : D → Int32 → Prop} {base nL : Nat} {ra : Nat → Nat} {la : List (Option (ip_V D))} {ls : Array Slot} (h : ip_mL R base ra nL la ls) {k : Nat} {v : ip_V D} (hv : ip_nth la k = some (some v)) : ∃ w, ip_gR R base ra v w ∧ ls[k]? = some (.val w) := by
  rw [ip_nth_eq] at hv
  obtain ⟨-, lv, h1, h2⟩ := h
  obtain ⟨w, h3, -, h4⟩ := h2 k v hv
  exact ⟨w, h4, h1.2.2 _ h3⟩
theorem ip_mL_set {D : Type} {R : D → Int32 → Prop} {base nL k : Nat} {ra : Nat → Nat} {la : List (Option (ip_V D))} {ls' : Array Slot} {lv : List (Nat × Value)} {v : ip_V D} {w : Value} (hl : la.length = nL)
    (h2 : ∀ k v, la[k]? = some (some v) → ∃ w, (k, w) ∈ lv ∧ w.category = 1 ∧ ip_gR R base ra v w) (hw : ip_gR R base ra v w) (hc : w.category = 1)
    (h : lv_has ls' nL ((k, w) :: lv.filter (fun q => !(q.1 == k) && !(q.1 + 1 == k && q.2.category == 2)))) : ip_mL R base ra nL (ip_set la k (some v)) ls' := by
  rw [ip_set_eq]
  refine ⟨by rw [List.length_set]; exact hl, _, h, fun k' v' h' => ?_⟩
  rw [List.getElem?_set] at h'
  by_cases e : k = k'
  · subst e
    simp only [if_true] at h'
    split at h'
    · cases h'
      exact ⟨w, List.mem_cons_self, hc, hw⟩
    · cases h'
  · rw [if_neg e] at h'
    obtain ⟨w', h3, h4, h5⟩ := h2 k' v' h'
    refine ⟨w', List.mem_cons_of_mem _ (List.mem_filter.mpr ⟨h3, ?_⟩), h4, h5⟩
    have n1 : (k' == k) = false := by simp; exact fun q => e q.symm
    simp [n1, h4]
theorem ip_lt_of {D : Type} {la : List (Option (ip_V D))} {k : Nat} {x : Option (ip_V D)} (h : ip_nth la k = some x) : k < la.length := by
  rw [ip_nth_eq] at h
  exact (List.getElem?_eq_some_iff.mp h).1
theorem ip_ix_some {x : Option Int32} {k : Nat} (h : ip_ix x = some k) : ∃ v : Int32, x = some v ∧ ¬ v < 0 ∧ v.toNatClampNeg = k := by
  unfold ip_ix at h
  split at h
  · split at h
    · cases h
    · cases h; exact ⟨_, rfl, by assumption, rfl⟩
  · cases h
theorem ip_bit_some {x : Option Int32} (h : ip_bit x = true) : ∃ v : Int32, x = some v ∧ (v = 0 ∨ v = 1) := by
  unfold ip_bit at h
  split at h
  · simp only [Bool.or_eq_true, decide_eq_true_eq] at h; exact ⟨_, rfl, h⟩
  · cases h
end
section
section Steps
variable {D : Type} {R : D → Int32 → Prop} {ops : ip_O D} {p : Program} {l : Launch} {e : Env} {Rm : Room} {s : State} {m : MethodId} {args : Array Value} {below : List Frame} {meth : Method} {c : Code} {Q : State → Prop} {bs : ByteArray} {cls kd nL base : Nat} {Dg : va_G} {cI cZ cJ : ClassId} {A : Nat → Prop} {ra : Nat → Nat} {ro : List (List D)}
variable {pc nx mc ms : Nat} {la : List (Option (ip_V D))} {st : List (ip_V D)} {hp : ip_Hp D} {fz : Bool}
theorem st_const (C : ip_Cx R ops p s m args meth c bs cls kd nL Dg cI cZ cJ A ra ro) {i : Instr} {v : Int32} (hn : nx = pc + ip_ln i) (hd : decode bs pc = .ok (i, ip_ln i)) (hi : (∃ n : Int, i = .iconst n ∧ v = Int32.ofInt n) ∨ (∃ n : Int, i = .bipush n ∧ v = (Int8.ofInt n).toInt32) ∨ ∃ n : Int, i = .sipush n ∧ v = (Int16.ofInt n).toInt32)
    (hk : ip_good R p l e Rm s m args below meth c Q nL base Dg cI cZ cJ A ra (nx, la, .inl (ops.1 v) :: st, hp, mc, ms, fz)) : ip_good R p l e Rm s m args below meth c Q nL base Dg cI cZ cJ A ra (pc, la, st, hp, mc, ms, fz) := by
  intro ls s1 H locs h1 h2 h3
  have hk := hk ls (.int v :: s1) H locs h1 ⟨⟨v, rfl, C.1.1 v⟩, h2⟩ h3
  subst hn
  rcases hi with ⟨n, rfl, rfl⟩ | ⟨n, rfl, rfl⟩ | ⟨n, rfl, rfl⟩
  · exact lv_iconst C.2.1 C.2.2.1 hd rfl hk
  · exact lv_bipush C.2.1 C.2.2.1 hd rfl hk
  · exact lv_sipush C.2.1 C.2.2.1 hd rfl hk
theorem st_iload (C : ip_Cx R ops p s m args meth c bs cls kd nL Dg cI cZ cJ A ra ro) {i : Instr} {k : Nat} {d : D} (hn : nx = pc + ip_ln i) (hd : decode bs pc = .ok (i, ip_ln i)) (hi : i = .iload k ∨ ∃ n : Fin 4, i = .iload_n n ∧ (n : Nat) = k) (hv : ip_nth la k = some (some (.inl d)))
    (hk : ip_good R p l e Rm s m args below meth c Q nL base Dg cI cZ cJ A ra (nx, la, .inl d :: st, hp, mc, ms, fz)) : ip_good R p l e Rm s m args below meth c Q nL base Dg cI cZ cJ A ra (pc, la, st, hp, mc, ms, fz) := by
  intro ls s1 H locs h1 h2 h3
  obtain ⟨w, ⟨x, rfl, hx⟩, hw⟩ := ip_mL_get h1 hv
  have hk := hk ls (.int x :: s1) H locs h1 ⟨⟨x, rfl, hx⟩, h2⟩ h3
  subst hn
  rcases hi with rfl | ⟨n, rfl, hn⟩
  · exact lv_iload C.2.1 C.2.2.1 hd hw hk
  · exact lv_iload_n C.2.1 C.2.2.1 hd hn hw hk
theorem st_aload (C : ip_Cx R ops p s m args meth c bs cls kd nL Dg cI cZ cJ A ra ro) {i : Instr} {k : Nat} {v : ip_V D} (hn : nx = pc + ip_ln i) (hd : decode bs pc = .ok (i, ip_ln i)) (hi : i = .aload k ∨ ∃ n : Fin 4, i = .aload_n n ∧ (n : Nat) = k) (hv : ip_nth la k = some (some v)) (hr : ∀ w, ip_gR R base ra v w → ∃ a, w = .ref a)
    (hk : ip_good R p l e Rm s m args below meth c Q nL base Dg cI cZ cJ A ra (nx, la, v :: st, hp, mc, ms, fz)) : ip_good R p l e Rm s m args below meth c Q nL base Dg cI cZ cJ A ra (pc, la, st, hp, mc, ms, fz) := by
  intro ls s1 H locs h1 h2 h3
  obtain ⟨w, hg, hw⟩ := ip_mL_get h1 hv
  obtain ⟨a, rfl⟩ := hr w hg
  have hk := hk ls (.ref a :: s1) H locs h1 ⟨hg, h2⟩ h3
  subst hn
  rcases hi with rfl | ⟨n, rfl, hn⟩
  · exact lv_aload C.2.1 C.2.2.1 hd hw hk
  · exact lv_aload_n C.2.1 C.2.2.1 hd hn hw hk
theorem st_istore (C : ip_Cx R ops p s m args meth c bs cls kd nL Dg cI cZ cJ A ra ro) {i : Instr} {k : Nat} {d : D} {o : Option (ip_V D)} (hn : nx = pc + ip_ln i) (hd : decode bs pc = .ok (i, ip_ln i)) (hi : i = .istore k ∨ ∃ n : Fin 4, i = .istore_n n ∧ (n : Nat) = k) (hv : ip_nth la k = some o)
    (hk : ip_good R p l e Rm s m args below meth c Q nL base Dg cI cZ cJ A ra (nx, ip_set la k (some (.inl d)), st, hp, mc, ms, fz)) : ip_good R p l e Rm s m args below meth c Q nL base Dg cI cZ cJ A ra (pc, la, .inl d :: st, hp, mc, ms, fz) := by
  intro ls s1 H locs h1 h2 h3
  obtain ⟨w, s2, rfl, ⟨x, rfl, hx⟩, h2'⟩ := ip_all2_cons h2
  clear h2
  have h2 := h2'
  clear h2'
  obtain ⟨hl, lv, h4, h5⟩ := h1
  have hlt : k < nL := by rw [← hl]; exact ip_lt_of hv
  subst hn
  rcases hi with rfl | ⟨n, rfl, hn⟩
  · exact lv_istore C.2.1 C.2.2.1 hd h4 hlt rfl (fun ls' h6 => hk ls' s2 H locs (ip_mL_set hl h5 ⟨x, rfl, hx⟩ rfl h6) h2 h3)
  · exact lv_istore_n C.2.1 C.2.2.1 hd hn h4 hlt rfl (fun ls' h6 => hk ls' s2 H locs (ip_mL_set hl h5 ⟨x, rfl, hx⟩ rfl h6) h2 h3)
theorem st_astore (C : ip_Cx R ops p s m args meth c bs cls kd nL Dg cI cZ cJ A ra ro) {i : Instr} {k q : Nat} {o : Option (ip_V D)} (hn : nx = pc + ip_ln i) (hd : decode bs pc = .ok (i, ip_ln i)) (hi : i = .astore k ∨ ∃ n : Fin 4, i = .astore_n n ∧ (n : Nat) = k) (hv : ip_nth la k = some o)
    (hk : ip_good R p l e Rm s m args below meth c Q nL base Dg cI cZ cJ A ra (nx, ip_set la k (some (.inr (.inr (.inl (some q))))), st, hp, mc, ms, fz)) : ip_good R p l e Rm s m args below meth c Q nL base Dg cI cZ cJ A ra (pc, la, .inr (.inr (.inl (some q))) :: st, hp, mc, ms, fz) := by
  intro ls s1 H locs h1 h2 h3
  obtain ⟨w, s2, rfl, hg, h2'⟩ := ip_all2_cons h2
  clear h2
  have h2 := h2'
  clear h2'
  cases hg
  obtain ⟨hl, lv, h4, h5⟩ := h1
  have hlt : k < nL := by rw [← hl]; exact ip_lt_of hv
  subst hn
  rcases hi with rfl | ⟨n, rfl, hn⟩
  · exact lv_astore C.2.1 C.2.2.1 hd h4 hlt rfl (fun ls' h6 => hk ls' s2 H locs (ip_mL_set (v := .inr (.inr (.inl (some q)))) hl h5 rfl rfl h6) h2 h3)
  · exact lv_astore_n C.2.1 C.2.2.1 hd hn h4 hlt rfl (fun ls' h6 => hk ls' s2 H locs (ip_mL_set (v := .inr (.inr (.inl (some q)))) hl h5 rfl rfl h6) h2 h3)
theorem st_iinc (C : ip_Cx R ops p s m args meth c bs cls kd nL Dg cI cZ cJ A ra ro) {k : Nat} {n : Int} {d z : D} (hd : decode bs pc = .ok (.iinc k n, 3)) (hv : ip_nth la k = some (some (.inl d))) (hz : ops.2.1 0 d (ops.1 (Int32.ofInt n)) = some z)
    (hk : ip_good R p l e Rm s m args below meth c Q nL base Dg cI cZ cJ A ra (pc + 3, ip_set la k (some (.inl z)), st, hp, mc, ms, fz)) : ip_good R p l e Rm s m args below meth c Q nL base Dg cI cZ cJ A ra (pc, la, st, hp, mc, ms, fz) := by
  intro ls s1 H locs h1 h2 h3
  obtain ⟨hl, lv, h4, h5⟩ := h1
  have hlt : k < nL := by rw [← hl]; exact ip_lt_of hv
  rw [ip_nth_eq] at hv
  obtain ⟨w, h6, -, x, rfl, hx⟩ := h5 k _ hv
  obtain ⟨i, hi⟩ := List.getElem?_of_mem h6
  have hz := (C.1.2.1 0 _ _ _ _ _ hz hx (C.1.1 _)).2
  exact lv_iinc C.2.1 C.2.2.1 hd h4 hi rfl hlt rfl (fun ls' h7 => hk ls' s1 H locs (ip_mL_set (v := .inl z) hl h5 ⟨_, rfl, hz⟩ rfl h7) h2 h3)
theorem st_dup (C : ip_Cx R ops p s m args meth c bs cls kd nL Dg cI cZ cJ A ra ro) {v : ip_V D} (hd : decode bs pc = .ok (.dup, 1)) (h0 : ip_one v = true) (hk : ip_good R p l e Rm s m args below meth c Q nL base Dg cI cZ cJ A ra (pc + 1, la, v :: v :: st, hp, mc, ms, fz)) : ip_good R p l e Rm s m args below meth c Q nL base Dg cI cZ cJ A ra (pc, la, v :: st, hp, mc, ms, fz) := by
  intro ls s1 H locs h1 h2 h3
  obtain ⟨w, s2, rfl, hg, h2'⟩ := ip_all2_cons h2
  clear h2
  have h2 := h2'
  clear h2'
  exact lv_dup C.2.1 C.2.2.1 hd (ip_one_cat h0 hg) (hk ls _ H locs h1 ⟨hg, hg, h2⟩ h3)
theorem st_pop (C : ip_Cx R ops p s m args meth c bs cls kd nL Dg cI cZ cJ A ra ro) {v : ip_V D} (hd : decode bs pc = .ok (.pop, 1)) (h0 : ip_one v = true) (hk : ip_good R p l e Rm s m args below meth c Q nL base Dg cI cZ cJ A ra (pc + 1, la, st, hp, mc, ms, fz)) : ip_good R p l e Rm s m args below meth c Q nL base Dg cI cZ cJ A ra (pc, la, v :: st, hp, mc, ms, fz) := by
  intro ls s1 H locs h1 h2 h3
  obtain ⟨w, s2, rfl, hg, h2'⟩ := ip_all2_cons h2
  clear h2
  have h2 := h2'
  clear h2'
  exact lv_pop C.2.1 C.2.2.1 hd (ip_one_cat h0 hg) (hk ls _ H locs h1 h2 h3)
theorem st_dup2 (C : ip_Cx R ops p s m args meth c bs cls kd nL Dg cI cZ cJ A ra ro) {v v2 : ip_V D} (hd : decode bs pc = .ok (.dup2, 1)) (h0 : ip_one v = true) (h00 : ip_one v2 = true) (hk : ip_good R p l e Rm s m args below meth c Q nL base Dg cI cZ cJ A ra (pc + 1, la, v :: v2 :: v :: v2 :: st, hp, mc, ms, fz)) : ip_good R p l e Rm s m args below meth c Q nL base Dg cI cZ cJ A ra (pc, la, v :: v2 :: st, hp, mc, ms, fz) := by
  intro ls s1 H locs h1 h2 h3
  obtain ⟨w, s2, rfl, hg, h2'⟩ := ip_all2_cons h2
  clear h2
  have h2 := h2'
  clear h2'
  obtain ⟨w2, s2, rfl, hg2, h2'⟩ := ip_all2_cons h2
  clear h2
  have h2 := h2'
  clear h2'
  exact lv_dup2_11 C.2.1 C.2.2.1 hd (ip_one_cat h0 hg) (ip_one_cat h00 hg2) (hk ls _ H locs h1 ⟨hg, hg2, hg, hg2, h2⟩ h3)
theorem st_bin (C : ip_Cx R ops p s m args meth c bs cls kd nL Dg cI cZ cJ A ra ro) {i : Instr} {o : Nat} {x y z : D} (hd : decode bs pc = .ok (i, 1)) (hi : (i = .iadd ∧ o = 0) ∨ (i = .isub ∧ o = 1) ∨ (i = .imul ∧ o = 2) ∨ (i = .idiv ∧ o = 3) ∨ (i = .irem ∧ o = 4) ∨ (i = .iand ∧ o = 5) ∨ (i = .ishr ∧ o = 6) ∨ (i = .iushr ∧ o = 7)) (hz : ops.2.1 o x y = some z)
    (hk : ip_good R p l e Rm s m args below meth c Q nL base Dg cI cZ cJ A ra (pc + 1, la, .inl z :: st, hp, mc, ms, fz)) : ip_good R p l e Rm s m args below meth c Q nL base Dg cI cZ cJ A ra (pc, la, .inl y :: .inl x :: st, hp, mc, ms, fz) := by
  intro ls s1 H locs h1 h2 h3
  obtain ⟨w, s2, rfl, ⟨v, rfl, hy⟩, h2'⟩ := ip_all2_cons h2
  clear h2
  have h2 := h2'
  clear h2'
  obtain ⟨w2, s2, rfl, ⟨u, rfl, hx⟩, h2'⟩ := ip_all2_cons h2
  clear h2
  have h2 := h2'
  clear h2'
  obtain ⟨hne, hz⟩ := C.1.2.1 _ _ _ _ _ _ hz hx hy
  have hk := hk ls (.int (ip_bI o u v) :: s2) H locs h1 ⟨⟨_, rfl, hz⟩, h2⟩ h3
  rcases hi with ⟨rfl, rfl⟩ | ⟨rfl, rfl⟩ | ⟨rfl, rfl⟩ | ⟨rfl, rfl⟩ | ⟨rfl, rfl⟩ | ⟨rfl, rfl⟩ | ⟨rfl, rfl⟩ | ⟨rfl, rfl⟩
  · exact lv_iadd C.2.1 C.2.2.1 hd hk
  · exact lv_isub C.2.1 C.2.2.1 hd hk
  · exact lv_imul C.2.1 C.2.2.1 hd hk
  · exact lv_idiv C.2.1 C.2.2.1 hd (hne (Or.inl rfl)) hk
  · exact lv_irem C.2.1 C.2.2.1 hd (hne (Or.inr rfl)) hk
  · exact lv_iand C.2.1 C.2.2.1 hd hk
  · exact lv_ishr C.2.1 C.2.2.1 hd hk
  · exact lv_iushr C.2.1 C.2.2.1 hd rfl hk
theorem st_ineg (C : ip_Cx R ops p s m args meth c bs cls kd nL Dg cI cZ cJ A ra ro) {x z : D} (hd : decode bs pc = .ok (.ineg, 1)) (hz : ops.2.1 8 x x = some z) (hk : ip_good R p l e Rm s m args below meth c Q nL base Dg cI cZ cJ A ra (pc + 1, la, .inl z :: st, hp, mc, ms, fz)) : ip_good R p l e Rm s m args below meth c Q nL base Dg cI cZ cJ A ra (pc, la, .inl x :: st, hp, mc, ms, fz) := by
  intro ls s1 H locs h1 h2 h3
  obtain ⟨w, s2, rfl, ⟨v, rfl, hy⟩, h2'⟩ := ip_all2_cons h2
  clear h2
  have h2 := h2'
  clear h2'
  exact lv_ineg C.2.1 C.2.2.1 hd (hk ls (.int (-v) :: s2) H locs h1 ⟨⟨_, rfl, (C.1.2.1 8 _ _ _ _ _ hz hy hy).2⟩, h2⟩ h3)
theorem st_i2l (C : ip_Cx R ops p s m args meth c bs cls kd nL Dg cI cZ cJ A ra ro) {x : D} (hd : decode bs pc = .ok (.i2l, 1)) (hk : ip_good R p l e Rm s m args below meth c Q nL base Dg cI cZ cJ A ra (pc + 1, la, .inr (.inl x) :: st, hp, mc, ms, fz)) : ip_good R p l e Rm s m args below meth c Q nL base Dg cI cZ cJ A ra (pc, la, .inl x :: st, hp, mc, ms, fz) := by
  intro ls s1 H locs h1 h2 h3
  obtain ⟨w, s2, rfl, ⟨v, rfl, hy⟩, h2'⟩ := ip_all2_cons h2
  clear h2
  have h2 := h2'
  clear h2'
  exact lv_i2l C.2.1 C.2.2.1 hd rfl (hk ls (.long v.toInt64 :: s2) H locs h1 ⟨⟨_, rfl, hy⟩, h2⟩ h3)
theorem st_lcmp (C : ip_Cx R ops p s m args meth c bs cls kd nL Dg cI cZ cJ A ra ro) {x y z : D} (hd : decode bs pc = .ok (.lcmp, 1)) (hz : ops.2.1 9 x y = some z) (hk : ip_good R p l e Rm s m args below meth c Q nL base Dg cI cZ cJ A ra (pc + 1, la, .inl z :: st, hp, mc, ms, fz)) : ip_good R p l e Rm s m args below meth c Q nL base Dg cI cZ cJ A ra (pc, la, .inr (.inl y) :: .inr (.inl x) :: st, hp, mc, ms, fz) := by
  intro ls s1 H locs h1 h2 h3
  obtain ⟨w, s2, rfl, ⟨v, rfl, hy⟩, h2'⟩ := ip_all2_cons h2
  clear h2
  have h2 := h2'
  clear h2'
  obtain ⟨w2, s2, rfl, ⟨u, rfl, hx⟩, h2'⟩ := ip_all2_cons h2
  clear h2
  have h2 := h2'
  clear h2'
  exact W.lcmp C.2.1 C.2.2.1 hd (hk ls _ H locs h1 ⟨⟨_, rfl, (C.1.2.1 9 _ _ _ _ _ hz hx hy).2⟩, h2⟩ h3)
theorem st_icmp (C : ip_Cx R ops p s m args meth c bs cls kd nL Dg cI cZ cJ A ra ro) {k : ClassFile.Cond} {off : Int} {a : Nat} {x y : D} {t : Bool} (hd : decode bs pc = .ok (.if_icmp k off, 3)) (ha : (pc : Int) + off = (a : Int)) (ht : ops.2.2.1 (ip_cc k) x y = some t)
    (hk : ip_good R p l e Rm s m args below meth c Q nL base Dg cI cZ cJ A ra ((if t = true then a else pc + 3), la, st, hp, mc, ms, fz)) : ip_good R p l e Rm s m args below meth c Q nL base Dg cI cZ cJ A ra (pc, la, .inl y :: .inl x :: st, hp, mc, ms, fz) := by
  intro ls s1 H locs h1 h2 h3
  obtain ⟨w, s2, rfl, ⟨v, rfl, hy⟩, h2'⟩ := ip_all2_cons h2
  clear h2
  have h2 := h2'
  clear h2'
  obtain ⟨w2, s2, rfl, ⟨u, rfl, hx⟩, h2'⟩ := ip_all2_cons h2
  clear h2
  have h2 := h2'
  clear h2'
  have hc := C.1.2.2.1 _ _ _ _ _ _ ht hx hy
  have hk := hk ls s2 H locs h1 h2 h3
  subst hc
  cases k
  · exact lv_icmp_eq C.2.1 C.2.2.1 hd ha (fun q => by simpa [ip_cc, ip_cI, q] using hk) (fun q => by simpa [ip_cc, ip_cI, q] using hk)
  · exact lv_icmp_ne C.2.1 C.2.2.1 hd ha (fun q => by simpa [ip_cc, ip_cI, q] using hk) (fun q => by simpa [ip_cc, ip_cI, q] using hk)
  · exact lv_icmp_lt C.2.1 C.2.2.1 hd ha (fun q => by simpa only [ip_cc, ip_cI, q, decide_true, decide_false, if_true, Bool.false_eq_true, if_false] using hk) (fun q => by simpa only [ip_cc, ip_cI, q, decide_true, decide_false, if_true, Bool.false_eq_true, if_false] using hk)
  · exact lv_icmp_ge C.2.1 C.2.2.1 hd ha (fun q => by simpa only [ip_cc, ip_cI, q, decide_true, decide_false, if_true, Bool.false_eq_true, if_false] using hk) (fun q => by simpa only [ip_cc, ip_cI, q, decide_true, decide_false, if_true, Bool.false_eq_true, if_false] using hk)
  · exact lv_icmp_gt C.2.1 C.2.2.1 hd ha (fun q => by simpa only [ip_cc, ip_cI, q, decide_true, decide_false, if_true, Bool.false_eq_true, if_false] using hk) (fun q => by simpa only [ip_cc, ip_cI, q, decide_true, decide_false, if_true, Bool.false_eq_true, if_false] using hk)
  · exact lv_icmp_le C.2.1 C.2.2.1 hd ha (fun q => by simpa only [ip_cc, ip_cI, q, decide_true, decide_false, if_true, Bool.false_eq_true, if_false] using hk) (fun q => by simpa only [ip_cc, ip_cI, q, decide_true, decide_false, if_true, Bool.false_eq_true, if_false] using hk)
theorem st_if (C : ip_Cx R ops p s m args meth c bs cls kd nL Dg cI cZ cJ A ra ro) {k : ClassFile.Cond} {off : Int} {a : Nat} {x : D} {t : Bool} (hd : decode bs pc = .ok (.ifCond k off, 3)) (ha : (pc : Int) + off = (a : Int)) (ht : ops.2.2.1 (ip_cc k) x (ops.1 0) = some t)
    (hk : ip_good R p l e Rm s m args below meth c Q nL base Dg cI cZ cJ A ra ((if t = true then a else pc + 3), la, st, hp, mc, ms, fz)) : ip_good R p l e Rm s m args below meth c Q nL base Dg cI cZ cJ A ra (pc, la, .inl x :: st, hp, mc, ms, fz) := by
  intro ls s1 H locs h1 h2 h3
  obtain ⟨w, s2, rfl, ⟨u, rfl, hx⟩, h2'⟩ := ip_all2_cons h2
  clear h2
  have h2 := h2'
  clear h2'
  have hc := C.1.2.2.1 _ _ _ _ _ _ ht hx (C.1.1 0)
  have hk := hk ls s2 H locs h1 h2 h3
  subst hc
  cases k
  · exact lv_if_eq C.2.1 C.2.2.1 hd ha (fun q => by simpa [ip_cc, ip_cI, q] using hk) (fun q => by simpa [ip_cc, ip_cI, q] using hk)
  · exact lv_if_ne C.2.1 C.2.2.1 hd ha (fun q => by simpa [ip_cc, ip_cI, q] using hk) (fun q => by simpa [ip_cc, ip_cI, q] using hk)
  · exact lv_if_lt C.2.1 C.2.2.1 hd ha (fun q => by simpa only [ip_cc, ip_cI, q, decide_true, decide_false, if_true, Bool.false_eq_true, if_false] using hk) (fun q => by simpa only [ip_cc, ip_cI, q, decide_true, decide_false, if_true, Bool.false_eq_true, if_false] using hk)
  · exact lv_if_ge C.2.1 C.2.2.1 hd ha (fun q => by simpa only [ip_cc, ip_cI, q, decide_true, decide_false, if_true, Bool.false_eq_true, if_false] using hk) (fun q => by simpa only [ip_cc, ip_cI, q, decide_true, decide_false, if_true, Bool.false_eq_true, if_false] using hk)
  · exact lv_if_gt C.2.1 C.2.2.1 hd ha (fun q => by simpa only [ip_cc, ip_cI, q, decide_true, decide_false, if_true, Bool.false_eq_true, if_false] using hk) (fun q => by simpa only [ip_cc, ip_cI, q, decide_true, decide_false, if_true, Bool.false_eq_true, if_false] using hk)
  · exact lv_if_le C.2.1 C.2.2.1 hd ha (fun q => by simpa only [ip_cc, ip_cI, q, decide_true, decide_false, if_true, Bool.false_eq_true, if_false] using hk) (fun q => by simpa only [ip_cc, ip_cI, q, decide_true, decide_false, if_true, Bool.false_eq_true, if_false] using hk)
theorem st_goto (C : ip_Cx R ops p s m args meth c bs cls kd nL Dg cI cZ cJ A ra ro) {off : Int} {a : Nat} (hd : decode bs pc = .ok (.goto off, 3)) (ha : (pc : Int) + off = (a : Int)) (hk : ip_good R p l e Rm s m args below meth c Q nL base Dg cI cZ cJ A ra (a, la, st, hp, mc, ms, fz)) : ip_good R p l e Rm s m args below meth c Q nL base Dg cI cZ cJ A ra (pc, la, st, hp, mc, ms, fz) := by
  intro ls s1 H locs h1 h2 h3
  exact lv_goto C.2.1 C.2.2.1 hd ha (hk ls s1 H locs h1 h2 h3)
theorem st_tsw (C : ip_Cx R ops p s m args meth c bs cls kd nL Dg cI cZ cJ A ra ro) {dflt lo hi : Int} {offs : Array Int} {len : Nat} {x : D} {v : Int32} (hd : decode bs pc = .ok (.tableswitch dflt lo hi offs, len)) (hv : ops.2.2.2 x = some v) {tgt : Nat}
    (ht : ((v.toInt < lo ∨ hi < v.toInt) ∧ (pc : Int) + dflt = (tgt : Int)) ∨ (¬ (v.toInt < lo ∨ hi < v.toInt) ∧ ∃ off, offs[(v.toInt - lo).toNat]? = some off ∧ (pc : Int) + off = (tgt : Int)))
    (hk : ip_good R p l e Rm s m args below meth c Q nL base Dg cI cZ cJ A ra (tgt, la, st, hp, mc, ms, fz)) : ip_good R p l e Rm s m args below meth c Q nL base Dg cI cZ cJ A ra (pc, la, .inl x :: st, hp, mc, ms, fz) := by
  intro ls s1 H locs h1 h2 h3
  obtain ⟨w, s2, rfl, ⟨u, rfl, hx⟩, h2'⟩ := ip_all2_cons h2
  clear h2
  have h2 := h2'
  clear h2'
  have hc := C.1.2.2.2 _ _ _ hv hx
  subst hc
  rcases ht with ⟨h4, h5⟩ | ⟨h4, off, h5, h6⟩
  · exact lv_tableOut C.2.1 C.2.2.1 hd h4 h5 (hk ls s2 H locs h1 h2 h3)
  · exact lv_tableIn C.2.1 C.2.2.1 hd (fun q => h4 (Or.inl q)) (fun q => h4 (Or.inr q)) h5 h6 (hk ls s2 H locs h1 h2 h3)
theorem st_tsw2 (C : ip_Cx R ops p s m args meth c bs cls kd nL Dg cI cZ cJ A ra ro) {dflt lo hi : Int} {offs : Array Int} {len : Nat} {x : D} (hd : decode bs pc = .ok (.tableswitch dflt lo hi offs, len)) {tgt : Nat} (ht : (pc : Int) + dflt = (tgt : Int)) (h3 : (Int32.ofInt lo).toInt = lo) (h4 : (Int32.ofInt hi).toInt = hi)
    (h5 : ops.2.2.1 2 x (ops.1 (Int32.ofInt lo)) = some true ∨ ops.2.2.1 4 x (ops.1 (Int32.ofInt hi)) = some true)
    (hk : ip_good R p l e Rm s m args below meth c Q nL base Dg cI cZ cJ A ra (tgt, la, st, hp, mc, ms, fz)) : ip_good R p l e Rm s m args below meth c Q nL base Dg cI cZ cJ A ra (pc, la, .inl x :: st, hp, mc, ms, fz) := by
  intro ls s1 H locs h1 h2 h3'
  obtain ⟨w, s2, rfl, ⟨u, rfl, hx⟩, h2'⟩ := ip_all2_cons h2
  clear h2
  have h2 := h2'
  clear h2'
  refine lv_tableOut C.2.1 C.2.2.1 hd ?_ ht (hk ls s2 H locs h1 h2 h3')
  rcases h5 with h5 | h5
  · have hc : decide (u < Int32.ofInt lo) = true := C.1.2.2.1 2 _ _ _ _ _ h5 hx (C.1.1 _)
    have hc := of_decide_eq_true hc
    rw [Int32.lt_iff_toInt_lt, h3] at hc
    exact Or.inl hc
  · have hc : decide (Int32.ofInt hi < u) = true := C.1.2.2.1 4 _ _ _ _ _ h5 hx (C.1.1 _)
    have hc := of_decide_eq_true hc
    rw [Int32.lt_iff_toInt_lt, h4] at hc
    exact Or.inr hc
theorem st_lsw (C : ip_Cx R ops p s m args meth c bs cls kd nL Dg cI cZ cJ A ra ro) {dflt : Int} {ps : Array (Int × Int)} {len : Nat} {x : D} {v : Int32} (hd : decode bs pc = .ok (.lookupswitch dflt ps, len)) (hv : ops.2.2.2 x = some v) {tgt : Nat}
    (hp1 : (ps.toList.zip (ps.toList.drop 1)).all (fun (a, next) => a.1 < next.1) = true) (ht : (pc : Int) + Op.lookupswitch.offset ps.toList dflt v.toInt = (tgt : Int))
    (hk : ip_good R p l e Rm s m args below meth c Q nL base Dg cI cZ cJ A ra (tgt, la, st, hp, mc, ms, fz)) : ip_good R p l e Rm s m args below meth c Q nL base Dg cI cZ cJ A ra (pc, la, .inl x :: st, hp, mc, ms, fz) := by
  intro ls s1 H locs h1 h2 h3
  obtain ⟨w, s2, rfl, ⟨u, rfl, hx⟩, h2'⟩ := ip_all2_cons h2
  clear h2
  have h2 := h2'
  clear h2'
  have hc := C.1.2.2.2 _ _ _ hv hx
  subst hc
  exact lv_lookup C.2.1 C.2.2.1 hd hp1 rfl ht (hk ls s2 H locs h1 h2 h3)
end Steps
end
section
theorem ip_all2_set {α β : Type} {P : α → β → Prop} {as : List α} {v : α} {w : β} (hv : P v w) : ∀ {bs : List β} (k : Nat), ip_all2 P as bs → ip_all2 P (as.set k v) (bs.set k w) := by
  induction as with
  | nil => intro bs k h; rw [ip_all2_nil h]; trivial
  | cons a as ih =>
    intro bs k h
    obtain ⟨b, bs1, rfl, h1, h2⟩ := ip_all2_cons h
    cases k with
    | zero => exact ⟨hv, h2⟩
    | succ k => exact ⟨h1, ih k h2⟩
section Heaps
variable {D : Type} {R : D → Int32 → Prop} {base : Nat} {ra : Nat → Nat} {cI cZ cJ : ClassId} {hp : ip_Hp D} {ws : va_W}
theorem ip_hR_set {q : Nat} {x x' : Nat × List (ip_V D)} {E' : va_E} (h : ip_hR R base ra cI cZ cJ hp ws) (hq : hp[q]? = some x) (hc : ip_cR R base ra cI cZ cJ x' E') : ip_hR R base ra cI cZ cJ (hp.set q x') (ws.set q (base + q, E')) := by
  refine ⟨by rw [List.length_set, List.length_set]; exact h.1, fun k y hy => ?_⟩
  have hlt : q < hp.length := (List.getElem?_eq_some_iff.mp hq).1
  rw [List.getElem?_set] at hy ⊢
  by_cases e : q = k
  · subst e
    simp only [if_true, hlt] at hy
    cases hy
    simp only [if_true, h.1, hlt]
    exact ⟨E', rfl, hc⟩
  · rw [if_neg e] at hy ⊢
    exact h.2 k y hy
theorem ip_hR_push {x : Nat × List (ip_V D)} {E : va_E} (h : ip_hR R base ra cI cZ cJ hp ws) (hc : ip_cR R base ra cI cZ cJ x E) : ip_hR R base ra cI cZ cJ (hp ++ [x]) (ws ++ [(base + hp.length, E)]) := by
  refine ⟨by simp [h.1], fun k y hy => ?_⟩
  by_cases hk : k < hp.length
  · rw [List.getElem?_append_left hk] at hy
    rw [List.getElem?_append_left (by rw [h.1]; exact hk)]
    exact h.2 k y hy
  · rw [List.getElem?_append_right (by omega)] at hy
    have hz : k - hp.length < 1 := (List.getElem?_eq_some_iff.mp hy).1
    have hk : k = hp.length := by omega
    subst hk
    simp at hy
    subst hy
    rw [List.getElem?_append_right (by rw [h.1]; exact Nat.le_refl _)]
    exact ⟨E, by simp [h.1], hc⟩
theorem ip_cR_obj {a : Nat} {fs : List (ip_V D)} {E : va_E} (ha : a < 6) (h : ip_cR R base ra cI cZ cJ (a, fs) E) : ∃ fv : List Value, E = .inr (a, fv) ∧ ip_all2 (ip_gR R base ra) fs fv := by
  rcases h with ⟨-, h⟩ | ⟨h, -⟩ | ⟨h, -⟩ | ⟨h, -⟩
  · exact h
  all_goals (dsimp only at h; omega)
theorem ip_cR_int {cs : List (ip_V D)} {E : va_E} (h : ip_cR R base ra cI cZ cJ (20, cs) E) : ∃ f : Nat → Int32, E = .inl (cI, cs.length, .inl f) ∧ ∀ k v, cs[k]? = some v → ∃ d, v = .inl d ∧ R d (f k) := by
  rcases h with ⟨h, -⟩ | ⟨-, h⟩ | ⟨h, -⟩ | ⟨h, -⟩
  · dsimp only at h; omega
  · exact h
  all_goals (dsimp only at h; omega)
theorem ip_cR_boo {cs : List (ip_V D)} {E : va_E} (h : ip_cR R base ra cI cZ cJ (21, cs) E) : ∃ f : Nat → Int32, E = .inl (cZ, cs.length, .inl f) ∧ ∀ k v, cs[k]? = some v → ∃ d, v = .inl d ∧ R d (f k) := by
  rcases h with ⟨h, -⟩ | ⟨h, -⟩ | ⟨-, h⟩ | ⟨h, -⟩
  · dsimp only at h; omega
  · dsimp only at h; omega
  · exact h
  · dsimp only at h; omega
theorem ip_cR_lng {cs : List (ip_V D)} {E : va_E} (h : ip_cR R base ra cI cZ cJ (22, cs) E) : ∃ f : Nat → Int64, E = .inl (cJ, cs.length, .inr (.inl f)) ∧ ∀ k v, cs[k]? = some v → ∃ d i, v = .inr (.inl d) ∧ R d i ∧ f k = i.toInt64 := by
  rcases h with ⟨h, -⟩ | ⟨h, -⟩ | ⟨h, -⟩ | ⟨-, h⟩
  · dsimp only at h; omega
  · dsimp only at h; omega
  · dsimp only at h; omega
  · exact h
end Heaps
theorem ip_fitI (i : Int32) : narrow .int (.int i) = .int i ∧ fits .int (.int i) = true := ⟨rfl, rfl⟩
theorem ip_fitZ {i : Int32} (h : i = 0 ∨ i = 1) : narrow .boolean (.int i) = .int i ∧ fits .boolean (.int i) = true := by
  rcases h with rfl | rfl <;> exact ⟨by decide +kernel, by decide +kernel⟩
theorem ip_fitA {t : FieldType} (h : ip_isRef t = true) (a : Nat) : narrow t (.ref a) = .ref a ∧ fits t (.ref a) = true := by
  cases t <;> first | exact ⟨rfl, rfl⟩ | cases h
section Steps2
variable {D : Type} {R : D → Int32 → Prop} {ops : ip_O D} {p : Program} {l : Launch} {e : Env} {Rm : Room} {s : State} {m : MethodId} {args : Array Value} {below : List Frame} {meth : Method} {c : Code} {Q : State → Prop} {bs : ByteArray} {cls kd nL base : Nat} {Dg : va_G} {cI cZ cJ : ClassId} {A : Nat → Prop} {ra : Nat → Nat} {ro : List (List D)}
variable {pc nx mc ms : Nat} {la : List (Option (ip_V D))} {st : List (ip_V D)} {hp : ip_Hp D} {fz : Bool}
theorem st_get (C : ip_Cx R ops p s m args meth c bs cls kd nL Dg cI cZ cJ A ra ro) {q a b x : Nat} {fs : List (ip_V D)} {v : ip_V D} (hd : decode bs pc = .ok (.getfield x, 3)) (hf : ip_fl cls x a b = true) (hq : ip_nth hp q = some (a, fs)) (hv : ip_nth fs b = some v)
    (hk : ip_good R p l e Rm s m args below meth c Q nL base Dg cI cZ cJ A ra (pc + 3, la, v :: st, hp, mc, ms, fz)) : ip_good R p l e Rm s m args below meth c Q nL base Dg cI cZ cJ A ra (pc, la, .inr (.inr (.inl (some q))) :: st, hp, mc, ms, fz) := by
  intro ls s1 H locs h1 h2 h3
  obtain ⟨w, s2, rfl, hg, h2'⟩ := ip_all2_cons h2
  clear h2
  have h2 := h2'
  clear h2'
  cases hg
  obtain ⟨ha, hbN, hdec, hlk⟩ := ip_fl_w hf
  have hz := h3
  obtain ⟨⟨ws, hR, hP, hD⟩, hS, hfz⟩ := h3
  rw [ip_nth_eq] at hq hv
  obtain ⟨E, hE, hc⟩ := hR.2 q _ hq
  obtain ⟨fv, rfl, hall⟩ := ip_cR_obj ha hc
  obtain ⟨w, hw, hgv⟩ := ip_all2_at hall b v hv
  exact va_get C.2.1 C.2.2.1 C.2.2.2.2.2.1 (ip_hin ha) C.2.2.2.2.1 C.2.2.2.2.2.2.1 hP q hE (ip_vw ha) b hbN (C.2.2.2.2.2.1 _ hlk) (fun y hy => by rw [hdec] at hy; exact hy) hw hd (hk ls _ H locs h1 ⟨hgv, h2⟩ hz)
theorem st_put (C : ip_Cx R ops p s m args meth c bs cls kd nL Dg cI cZ cJ A ra ro) {q a b x : Nat} {fs : List (ip_V D)} {v0 v : ip_V D} (hd : decode bs pc = .ok (.putfield x, 3)) (hf : ip_fl cls x a b = true) (hq : ip_nth hp q = some (a, fs)) (hv : ip_nth fs b = some v0)
    (hfin : (ip_F a b).2.2.2 = false ∨ ((ip_F a b).2.2.2 = true ∧ a = cls ∧ kd = 2)) (hfit : ∀ w, ip_gR R base ra v w → narrow (ip_Y a b) w = w ∧ fits (ip_Y a b) w = true)
    (hk : ip_good R p l e Rm s m args below meth c Q nL base Dg cI cZ cJ A ra (pc + 3, la, st, ip_set hp q (a, ip_set fs b v), mc, ms, fz)) : ip_good R p l e Rm s m args below meth c Q nL base Dg cI cZ cJ A ra (pc, la, v :: .inr (.inr (.inl (some q))) :: st, hp, mc, ms, fz) := by
  intro ls s1 H locs h1 h2 h3
  obtain ⟨w, s2, rfl, hg, h2'⟩ := ip_all2_cons h2
  clear h2
  have h2 := h2'
  clear h2'
  obtain ⟨w2, s2, rfl, hg2, h2'⟩ := ip_all2_cons h2
  clear h2
  have h2 := h2'
  clear h2'
  cases hg2
  obtain ⟨ha, hbN, hdec, hlk⟩ := ip_fl_w hf
  obtain ⟨⟨ws, hR, hP, hD⟩, hS, hfz⟩ := h3
  rw [ip_nth_eq] at hq hv
  obtain ⟨E, hE, hc⟩ := hR.2 q _ hq
  obtain ⟨fv, rfl, hall⟩ := ip_cR_obj ha hc
  have hlen : b < fv.length := by rw [← ip_all2_len hall]; exact (List.getElem?_eq_some_iff.mp hv).1
  have kk : ∀ (H1 : Heap) (locs1 : List Loc), va_P Dg vwCl (ws.set q (base + q, .inr (a, fv.set b w))) H1 → va_D A (ws.set q (base + q, .inr (a, fv.set b w))) → va_S A s.heap H1 locs1 → W p l e Rm s m args below meth c H1 locs1 mc ms Q (F0 m (pc + 3) ls s2) := by
    intro H1 locs1 hP1 hD1 hS1
    refine hk ls s2 H1 locs1 h1 h2 ⟨⟨_, ?_, hP1, hD1⟩, hS1, fun z => ?_⟩
    · rw [ip_set_eq, ip_set_eq]
      exact ip_hR_set hR hq (Or.inl ⟨ha, _, rfl, ip_all2_set hg b hall⟩)
    · rw [ip_set_eq, List.length_set]; exact hfz z
  obtain ⟨hn1, hn2⟩ := hfit w hg
  have hs1 : ∀ y, s.fieldFound? (ip_F a b).1 (ip_F a b).2.1 (ip_F a b).2.2.1 = some y → s.fieldFound? (ip_R a) (ip_F a b).2.1 (ip_F a b).2.2.1 = some y := fun y hy => by rw [hdec] at hy; exact hy
  rcases hfin with hfin | ⟨hfin, rfl, hkd⟩
  · exact va_put C.2.1 C.2.2.1 C.2.2.2.2.2.1 (ip_hin ha) (ip_Y a) (ip_tyo ha) (ip_nmo ha) C.2.2.2.2.1 C.2.2.2.2.2.2.1 hP hD hS q hE (ip_vw ha) b hbN (C.2.2.2.2.2.1 _ hlk) hs1 hfin (ip_tyo ha b hbN) hn1 hn2 hlen hd kk
  · exact va_putF C.2.1 C.2.2.1 C.2.2.2.2.2.1 (ip_hin ha) (ip_Y a) (ip_tyo ha) (ip_nmo ha) C.2.2.2.2.1 C.2.2.2.2.2.2.1 hP hD hS q hE (ip_vw ha) b hbN (C.2.2.2.2.2.1 _ hlk) hs1 hfin (C.2.2.2.2.2.2.2.2.2 hkd) hdec (ip_tyo ha b hbN) hn1 hn2 hlen hd kk
theorem st_gets (C : ip_Cx R ops p s m args meth c bs cls kd nL Dg cI cZ cJ A ra ro) {a x : Nat} (hd : decode bs pc = .ok (.getstatic x, 3)) (hf : ip_SL.any (fun z => Nat.beq z.1 cls && (Nat.beq z.2.1 x && Nat.beq z.2.2.1 a)) = true)
    (hk : ip_good R p l e Rm s m args below meth c Q nL base Dg cI cZ cJ A ra (pc + 3, la, .inr (.inr (.inr a)) :: st, hp, mc, ms, fz)) : ip_good R p l e Rm s m args below meth c Q nL base Dg cI cZ cJ A ra (pc, la, st, hp, mc, ms, fz) := by
  intro ls s1 H locs h1 h2 h3
  obtain ⟨ha, hlk⟩ := ip_sl_w hf
  exact va_gets C.2.1 C.2.2.1 (C.2.2.2.2.2.2.2.2.1.2.1 a ha) h3.2.1 C.2.2.2.2.1 (C.2.2.2.2.2.1 _ hlk) (fun y hy => hy) hd (hk ls _ H locs h1 ⟨rfl, h2⟩ h3)
theorem ip_vpin {v : Int32} {n k : Nat} (h1 : ¬ v < 0) (h2 : v.toNatClampNeg = k) (h3 : k < n) : vp_in v n := by
  intro q
  rcases q with q | q
  · exact h1 q
  · omega
theorem st_iald (C : ip_Cx R ops p s m args meth c bs cls kd nL Dg cI cZ cJ A ra ro) {q k : Nat} {ix : D} {cs : List (ip_V D)} {v : ip_V D} (hd : decode bs pc = .ok (.iaload, 1)) (hi : ip_ix (ops.2.2.2 ix) = some k) (hq : ip_nth hp q = some (20, cs)) (hv : ip_nth cs k = some v)
    (hk : ip_good R p l e Rm s m args below meth c Q nL base Dg cI cZ cJ A ra (pc + 1, la, v :: st, hp, mc, ms, fz)) : ip_good R p l e Rm s m args below meth c Q nL base Dg cI cZ cJ A ra (pc, la, .inl ix :: .inr (.inr (.inl (some q))) :: st, hp, mc, ms, fz) := by
  intro ls s1 H locs h1 h2 h3
  obtain ⟨w, s2, rfl, ⟨u, rfl, hx⟩, h2'⟩ := ip_all2_cons h2
  clear h2
  have h2 := h2'
  clear h2'
  obtain ⟨w2, s2, rfl, hg2, h2'⟩ := ip_all2_cons h2
  clear h2
  have h2 := h2'
  clear h2'
  cases hg2
  obtain ⟨iv, hi1, hi2, hi3⟩ := ip_ix_some hi
  have hu := C.1.2.2.2 _ _ _ hi1 hx
  subst hu
  rw [ip_nth_eq] at hq hv
  obtain ⟨⟨ws, hR, hP, hD⟩, hS, hfz⟩ := id h3
  obtain ⟨E, hE, hc⟩ := hR.2 q _ hq
  obtain ⟨f, rfl, hf⟩ := ip_cR_int hc
  obtain ⟨d, rfl, hd2⟩ := hf k v hv
  refine va_iald C.2.1 C.2.2.1 C.2.2.2.2.2.2.1 hP q 0 hE rfl (ip_vpin hi2 hi3 (List.getElem?_eq_some_iff.mp hv).1) hd (hk ls _ H locs h1 ⟨⟨_, rfl, ?_⟩, h2⟩ h3)
  rw [hi3]; exact hd2
theorem st_zald (C : ip_Cx R ops p s m args meth c bs cls kd nL Dg cI cZ cJ A ra ro) {q k : Nat} {ix : D} {cs : List (ip_V D)} {v : ip_V D} (hd : decode bs pc = .ok (.baload, 1)) (hi : ip_ix (ops.2.2.2 ix) = some k) (hq : ip_nth hp q = some (21, cs)) (hv : ip_nth cs k = some v)
    (hk : ip_good R p l e Rm s m args below meth c Q nL base Dg cI cZ cJ A ra (pc + 1, la, v :: st, hp, mc, ms, fz)) : ip_good R p l e Rm s m args below meth c Q nL base Dg cI cZ cJ A ra (pc, la, .inl ix :: .inr (.inr (.inl (some q))) :: st, hp, mc, ms, fz) := by
  intro ls s1 H locs h1 h2 h3
  obtain ⟨w, s2, rfl, ⟨u, rfl, hx⟩, h2'⟩ := ip_all2_cons h2
  clear h2
  have h2 := h2'
  clear h2'
  obtain ⟨w2, s2, rfl, hg2, h2'⟩ := ip_all2_cons h2
  clear h2
  have h2 := h2'
  clear h2'
  cases hg2
  obtain ⟨iv, hi1, hi2, hi3⟩ := ip_ix_some hi
  have hu := C.1.2.2.2 _ _ _ hi1 hx
  subst hu
  rw [ip_nth_eq] at hq hv
  obtain ⟨⟨ws, hR, hP, hD⟩, hS, hfz⟩ := id h3
  obtain ⟨E, hE, hc⟩ := hR.2 q _ hq
  obtain ⟨f, rfl, hf⟩ := ip_cR_boo hc
  obtain ⟨d, rfl, hd2⟩ := hf k v hv
  refine va_zald C.2.1 C.2.2.1 C.2.2.2.2.2.2.1 hP q 1 hE rfl (ip_vpin hi2 hi3 (List.getElem?_eq_some_iff.mp hv).1) hd (hk ls _ H locs h1 ⟨⟨_, rfl, ?_⟩, h2⟩ h3)
  rw [hi3]; exact hd2
theorem st_lald (C : ip_Cx R ops p s m args meth c bs cls kd nL Dg cI cZ cJ A ra ro) {q k : Nat} {ix : D} {cs : List (ip_V D)} {v : ip_V D} (hd : decode bs pc = .ok (.laload, 1)) (hi : ip_ix (ops.2.2.2 ix) = some k) (hq : ip_nth hp q = some (22, cs)) (hv : ip_nth cs k = some v)
    (hk : ip_good R p l e Rm s m args below meth c Q nL base Dg cI cZ cJ A ra (pc + 1, la, v :: st, hp, mc, ms, fz)) : ip_good R p l e Rm s m args below meth c Q nL base Dg cI cZ cJ A ra (pc, la, .inl ix :: .inr (.inr (.inl (some q))) :: st, hp, mc, ms, fz) := by
  intro ls s1 H locs h1 h2 h3
  obtain ⟨w, s2, rfl, ⟨u, rfl, hx⟩, h2'⟩ := ip_all2_cons h2
  clear h2
  have h2 := h2'
  clear h2'
  obtain ⟨w2, s2, rfl, hg2, h2'⟩ := ip_all2_cons h2
  clear h2
  have h2 := h2'
  clear h2'
  cases hg2
  obtain ⟨iv, hi1, hi2, hi3⟩ := ip_ix_some hi
  have hu := C.1.2.2.2 _ _ _ hi1 hx
  subst hu
  rw [ip_nth_eq] at hq hv
  obtain ⟨⟨ws, hR, hP, hD⟩, hS, hfz⟩ := id h3
  obtain ⟨E, hE, hc⟩ := hR.2 q _ hq
  obtain ⟨f, rfl, hf⟩ := ip_cR_lng hc
  obtain ⟨d, i2, rfl, hd2, hd3⟩ := hf k v hv
  refine va_lald C.2.1 C.2.2.1 C.2.2.2.2.2.2.1 hP q 2 hE rfl (ip_vpin hi2 hi3 (List.getElem?_eq_some_iff.mp hv).1) hd (hk ls _ H locs h1 ⟨⟨i2, ?_, hd2⟩, h2⟩ h3)
  rw [hi3, hd3]
theorem st_roald (C : ip_Cx R ops p s m args meth c bs cls kd nL Dg cI cZ cJ A ra ro) {t k : Nat} {ix d : D} {ds : List D} (hd : decode bs pc = .ok (.iaload, 1)) (hi : ip_ix (ops.2.2.2 ix) = some k) (hq : ip_nth ro t = some ds) (hv : ip_nth ds k = some d)
    (hk : ip_good R p l e Rm s m args below meth c Q nL base Dg cI cZ cJ A ra (pc + 1, la, .inl d :: st, hp, mc, ms, fz)) : ip_good R p l e Rm s m args below meth c Q nL base Dg cI cZ cJ A ra (pc, la, .inl ix :: .inr (.inr (.inr t)) :: st, hp, mc, ms, fz) := by
  intro ls s1 H locs h1 h2 h3
  obtain ⟨w, s2, rfl, ⟨u, rfl, hx⟩, h2'⟩ := ip_all2_cons h2
  clear h2
  have h2 := h2'
  clear h2'
  obtain ⟨w2, s2, rfl, hg2, h2'⟩ := ip_all2_cons h2
  clear h2
  have h2 := h2'
  clear h2'
  cases hg2
  obtain ⟨iv, hi1, hi2, hi3⟩ := ip_ix_some hi
  have hu := C.1.2.2.2 _ _ _ hi1 hx
  subst hu
  rw [ip_nth_eq] at hq hv
  obtain ⟨xs, hT, hxs⟩ := C.2.2.2.2.2.2.2.2.1.1 t ds hq
  exact va_ti C.2.1 C.2.2.1 hT h3.2.1 (ip_vpin hi2 hi3 (List.getElem?_eq_some_iff.mp hv).1) rfl hd (hk ls _ H locs h1 ⟨⟨_, rfl, by rw [hi3]; exact hxs k d hv⟩, h2⟩ h3)
theorem st_rolen (C : ip_Cx R ops p s m args meth c bs cls kd nL Dg cI cZ cJ A ra ro) {t : Nat} {ds : List D} (hd : decode bs pc = .ok (.arraylength, 1)) (hq : ip_nth ro t = some ds)
    (hk : ip_good R p l e Rm s m args below meth c Q nL base Dg cI cZ cJ A ra (pc + 1, la, .inl (ops.1 (Int32.ofNat ds.length)) :: st, hp, mc, ms, fz)) : ip_good R p l e Rm s m args below meth c Q nL base Dg cI cZ cJ A ra (pc, la, .inr (.inr (.inr t)) :: st, hp, mc, ms, fz) := by
  intro ls s1 H locs h1 h2 h3
  obtain ⟨w2, s2, rfl, hg2, h2'⟩ := ip_all2_cons h2
  clear h2
  have h2 := h2'
  clear h2'
  cases hg2
  rw [ip_nth_eq] at hq
  obtain ⟨xs, hT, hxs⟩ := C.2.2.2.2.2.2.2.2.1.1 t ds hq
  exact va_tlen C.2.1 C.2.2.1 hT h3.2.1 rfl hd (hk ls _ H locs h1 ⟨⟨_, rfl, C.1.1 _⟩, h2⟩ h3)
theorem st_iast (C : ip_Cx R ops p s m args meth c bs cls kd nL Dg cI cZ cJ A ra ro) {q k : Nat} {ix d : D} {cs : List (ip_V D)} {v : ip_V D} (hd : decode bs pc = .ok (.iastore, 1)) (hi : ip_ix (ops.2.2.2 ix) = some k) (hq : ip_nth hp q = some (20, cs)) (hv : ip_nth cs k = some v)
    (hk : ip_good R p l e Rm s m args below meth c Q nL base Dg cI cZ cJ A ra (pc + 1, la, st, ip_set hp q (20, ip_set cs k (.inl d)), mc, ms, fz)) : ip_good R p l e Rm s m args below meth c Q nL base Dg cI cZ cJ A ra (pc, la, .inl d :: .inl ix :: .inr (.inr (.inl (some q))) :: st, hp, mc, ms, fz) := by
  intro ls s1 H locs h1 h2 h3
  obtain ⟨w0, s2, rfl, ⟨x, rfl, hx0⟩, h2'⟩ := ip_all2_cons h2
  clear h2
  have h2 := h2'
  clear h2'
  obtain ⟨w, s2, rfl, ⟨u, rfl, hx⟩, h2'⟩ := ip_all2_cons h2
  clear h2
  have h2 := h2'
  clear h2'
  obtain ⟨w2, s2, rfl, hg2, h2'⟩ := ip_all2_cons h2
  clear h2
  have h2 := h2'
  clear h2'
  cases hg2
  obtain ⟨iv, hi1, hi2, hi3⟩ := ip_ix_some hi
  have hu := C.1.2.2.2 _ _ _ hi1 hx
  subst hu
  rw [ip_nth_eq] at hq hv
  obtain ⟨⟨ws, hR, hP, hD⟩, hS, hfz⟩ := h3
  obtain ⟨E, hE, hc⟩ := hR.2 q _ hq
  obtain ⟨f, rfl, hf⟩ := ip_cR_int hc
  refine va_iast C.2.1 C.2.2.1 C.2.2.2.2.2.2.1 hP hD hS q 0 hE rfl (ip_vpin hi2 hi3 (List.getElem?_eq_some_iff.mp hv).1) hd (fun H1 locs1 hP1 hD1 hS1 => hk ls s2 H1 locs1 h1 h2 ⟨⟨_, ?_, hP1, hD1⟩, hS1, fun z => ?_⟩)
  · rw [ip_set_eq, ip_set_eq]
    refine ip_hR_set hR hq (Or.inr (Or.inl ⟨rfl, _, by rw [List.length_set], fun k' v' h' => ?_⟩))
    dsimp only at h'
    rw [List.getElem?_set] at h'
    unfold upd
    by_cases e : k = k'
    · subst e
      simp only [if_true] at h'
      split at h'
      · cases h'
        exact ⟨d, rfl, by rw [hi3, if_pos rfl]; exact hx0⟩
      · cases h'
    · rw [if_neg e] at h'
      obtain ⟨d', h4, h5⟩ := hf k' v' h'
      exact ⟨d', h4, by rw [hi3, if_neg (fun q => e q.symm)]; exact h5⟩
  · rw [ip_set_eq, List.length_set]; exact hfz z
theorem st_zast (C : ip_Cx R ops p s m args meth c bs cls kd nL Dg cI cZ cJ A ra ro) {q k : Nat} {ix d : D} {cs : List (ip_V D)} {v : ip_V D} (hd : decode bs pc = .ok (.bastore, 1)) (hb0 : ip_bit (ops.2.2.2 d) = true) (hi : ip_ix (ops.2.2.2 ix) = some k) (hq : ip_nth hp q = some (21, cs)) (hv : ip_nth cs k = some v)
    (hk : ip_good R p l e Rm s m args below meth c Q nL base Dg cI cZ cJ A ra (pc + 1, la, st, ip_set hp q (21, ip_set cs k (.inl d)), mc, ms, fz)) : ip_good R p l e Rm s m args below meth c Q nL base Dg cI cZ cJ A ra (pc, la, .inl d :: .inl ix :: .inr (.inr (.inl (some q))) :: st, hp, mc, ms, fz) := by
  intro ls s1 H locs h1 h2 h3
  obtain ⟨w0, s2, rfl, ⟨x, rfl, hx0⟩, h2'⟩ := ip_all2_cons h2
  clear h2
  have h2 := h2'
  clear h2'
  obtain ⟨w, s2, rfl, ⟨u, rfl, hx⟩, h2'⟩ := ip_all2_cons h2
  clear h2
  have h2 := h2'
  clear h2'
  obtain ⟨w2, s2, rfl, hg2, h2'⟩ := ip_all2_cons h2
  clear h2
  have h2 := h2'
  clear h2'
  cases hg2
  obtain ⟨iv, hi1, hi2, hi3⟩ := ip_ix_some hi
  have hu := C.1.2.2.2 _ _ _ hi1 hx
  subst hu
  obtain ⟨bv, hb1, hb2⟩ := ip_bit_some hb0
  have hbx := C.1.2.2.2 _ _ _ hb1 hx0
  subst hbx
  have hnar : vp_nar .boolean x = x := by
    rcases hb2 with rfl | rfl <;> decide +kernel
  rw [ip_nth_eq] at hq hv
  obtain ⟨⟨ws, hR, hP, hD⟩, hS, hfz⟩ := h3
  obtain ⟨E, hE, hc⟩ := hR.2 q _ hq
  obtain ⟨f, rfl, hf⟩ := ip_cR_boo hc
  refine va_zast C.2.1 C.2.2.1 C.2.2.2.2.2.2.1 hP hD hS q 1 hE rfl (ip_vpin hi2 hi3 (List.getElem?_eq_some_iff.mp hv).1) hd (fun H1 locs1 hP1 hD1 hS1 => hk ls s2 H1 locs1 h1 h2 ⟨⟨_, ?_, hP1, hD1⟩, hS1, fun z => ?_⟩)
  · rw [ip_set_eq, ip_set_eq, hnar]
    refine ip_hR_set hR hq (Or.inr (Or.inr (Or.inl ⟨rfl, _, by rw [List.length_set], fun k' v' h' => ?_⟩)))
    dsimp only at h'
    rw [List.getElem?_set] at h'
    unfold upd
    by_cases e : k = k'
    · subst e
      simp only [if_true] at h'
      split at h'
      · cases h'
        exact ⟨d, rfl, by rw [hi3, if_pos rfl]; exact hx0⟩
      · cases h'
    · rw [if_neg e] at h'
      obtain ⟨d', h4, h5⟩ := hf k' v' h'
      exact ⟨d', h4, by rw [hi3, if_neg (fun q => e q.symm)]; exact h5⟩
  · rw [ip_set_eq, List.length_set]; exact hfz z
theorem st_last (C : ip_Cx R ops p s m args meth c bs cls kd nL Dg cI cZ cJ A ra ro) {q k : Nat} {ix d : D} {cs : List (ip_V D)} {v : ip_V D} (hd : decode bs pc = .ok (.lastore, 1)) (hi : ip_ix (ops.2.2.2 ix) = some k) (hq : ip_nth hp q = some (22, cs)) (hv : ip_nth cs k = some v)
    (hk : ip_good R p l e Rm s m args below meth c Q nL base Dg cI cZ cJ A ra (pc + 1, la, st, ip_set hp q (22, ip_set cs k (.inr (.inl d))), mc, ms, fz)) : ip_good R p l e Rm s m args below meth c Q nL base Dg cI cZ cJ A ra (pc, la, .inr (.inl d) :: .inl ix :: .inr (.inr (.inl (some q))) :: st, hp, mc, ms, fz) := by
  intro ls s1 H locs h1 h2 h3
  obtain ⟨w0, s2, rfl, ⟨x, rfl, hx0⟩, h2'⟩ := ip_all2_cons h2
  clear h2
  have h2 := h2'
  clear h2'
  obtain ⟨w, s2, rfl, ⟨u, rfl, hx⟩, h2'⟩ := ip_all2_cons h2
  clear h2
  have h2 := h2'
  clear h2'
  obtain ⟨w2, s2, rfl, hg2, h2'⟩ := ip_all2_cons h2
  clear h2
  have h2 := h2'
  clear h2'
  cases hg2
  obtain ⟨iv, hi1, hi2, hi3⟩ := ip_ix_some hi
  have hu := C.1.2.2.2 _ _ _ hi1 hx
  subst hu
  rw [ip_nth_eq] at hq hv
  obtain ⟨⟨ws, hR, hP, hD⟩, hS, hfz⟩ := h3
  obtain ⟨E, hE, hc⟩ := hR.2 q _ hq
  obtain ⟨f, rfl, hf⟩ := ip_cR_lng hc
  refine va_last C.2.1 C.2.2.1 C.2.2.2.2.2.2.1 hP hD hS q 2 hE rfl (ip_vpin hi2 hi3 (List.getElem?_eq_some_iff.mp hv).1) hd (fun H1 locs1 hP1 hD1 hS1 => hk ls s2 H1 locs1 h1 h2 ⟨⟨_, ?_, hP1, hD1⟩, hS1, fun z => ?_⟩)
  · rw [ip_set_eq, ip_set_eq]
    refine ip_hR_set hR hq (Or.inr (Or.inr (Or.inr ⟨rfl, _, by rw [List.length_set], fun k' v' h' => ?_⟩)))
    dsimp only at h'
    rw [List.getElem?_set] at h'
    unfold vp_updL
    by_cases e : k = k'
    · subst e
      simp only [if_true] at h'
      split at h'
      · cases h'
        exact ⟨d, x, rfl, hx0, by rw [hi3, if_pos rfl]⟩
      · cases h'
    · rw [if_neg e] at h'
      obtain ⟨d', i', h4, h5, h6⟩ := hf k' v' h'
      exact ⟨d', i', h4, h5, by rw [hi3, if_neg (fun q => e q.symm)]; exact h6⟩
  · rw [ip_set_eq, List.length_set]; exact hfz z
end Steps2
end
section
def ip_dflt (t : FieldType) : Value := match t with
  | .int => .int 0
  | .boolean => .int 0
  | _ => .null
theorem ip_dflt_all : (List.range 6).all (fun a => (List.range (ip_N a)).all (fun j => decide (defaultValue (ip_Y a j) = ip_dflt (ip_Y a j)))) = true := by decide +kernel
theorem ip_dflt_ok {a j : Nat} (ha : a < 6) (hj : j < ip_N a) : defaultValue (ip_Y a j) = vp_V ((List.range (ip_N a)).map (fun k => ip_dflt (ip_Y a k))) j := by
  have h1 := List.all_eq_true.mp ip_dflt_all a (List.mem_range.mpr ha)
  have h2 := List.all_eq_true.mp h1 j (List.mem_range.mpr hj)
  rw [decide_eq_true_eq] at h2
  rw [h2]
  unfold vp_V
  simp [List.getD, hj]
section Steps3
variable {D : Type} {R : D → Int32 → Prop} {ops : ip_O D} {p : Program} {l : Launch} {e : Env} {Rm : Room} {s : State} {m : MethodId} {args : Array Value} {below : List Frame} {meth : Method} {c : Code} {Q : State → Prop} {bs : ByteArray} {cls kd nL base : Nat} {Dg : va_G} {cI cZ cJ : ClassId} {A : Nat → Prop} {ra : Nat → Nat} {ro : List (List D)}
variable {pc nx mc ms : Nat} {la : List (Option (ip_V D))} {st : List (ip_V D)} {hp : ip_Hp D} {fz : Bool} {H : Heap} {locs : List Loc}
/-- a state of a walk has no more cells than were paid for -/
theorem ip_W_sz {g : JFrame} (k : H.size ≤ s.heap.size + mc → W p l e Rm s m args below meth c H locs mc ms Q g) : W p l e Rm s m args below meth c H locs mc ms Q g := fun T hT X =>
  k (by have h := X.same.2.2.1; rw [show (T.setVm s.vm).heap = T.heap from rfl, hT] at h; exact h) T hT X
theorem ip_size (h3 : ip_mH R base ra cI cZ cJ Dg A s hp mc fz H locs) (hf : fz = true) (hne : ip_ne hp mc = true) (hsz : H.size ≤ s.heap.size + mc) : H.size = base + hp.length := by
  obtain ⟨⟨ws, hR, hP, hD⟩, hS, hfz⟩ := h3
  have e1 := hfz hf
  have e2 := hS.1
  cases hp with
  | nil =>
    have e3 : mc = 0 := Nat.eq_of_beq_eq_true hne
    simp only [List.length_nil] at e1 ⊢
    omega
  | cons x xs =>
    have h1 : (x :: xs)[xs.length]? = some ((x :: xs)[xs.length]'(by simp)) := List.getElem?_eq_getElem (by simp)
    obtain ⟨E, hE, -⟩ := hR.2 _ _ h1
    have h2 := (hP _ _ hE).lt
    simp only [List.length_cons] at e1 ⊢
    dsimp only at h2
    omega
theorem ip_cat_eq {r : List (ip_V D)} : ∀ {s1 : List Value}, ip_all2 (ip_gR R base ra) r s1 → (s1.map fun v => v.category).sum = ip_cat r := by
  induction r with
  | nil => intro s1 h; rw [ip_all2_nil h]; rfl
  | cons v r ih =>
    intro s1 h
    obtain ⟨w, s2, rfl, hg, h2⟩ := ip_all2_cons h
    rw [List.map_cons, List.sum_cons, ih h2]
    rcases v with d | d | (_ | k) | t
    · obtain ⟨i, rfl, -⟩ := hg; rfl
    · obtain ⟨i, rfl, -⟩ := hg; rfl
    · cases hg; rfl
    · cases hg; rfl
    · cases hg; rfl
theorem st_mka (C : ip_Cx R ops p s m args meth c bs cls kd nL Dg cI cZ cJ A ra ro) {at0 : ArrayType} {x : D} {N t0 k : Nat} {cA : ClassId} {a0 : vp_A} {z : ip_V D} (hd : decode bs pc = .ok (.newarray at0, 2)) (hac : Cond.arrayClass (newarray.typeOf at0) ∈ ip_G) (hi : ip_ix (ops.2.2.2 x) = some N) (hN : N ≤ 1000)
    (ht : [(cI, FieldType.int), (cZ, FieldType.boolean), (cJ, FieldType.long)][t0]? = some (cA, newarray.typeOf at0)) (ha : ∀ cA : ClassId, vp_cell cA a0 = arrV cA N (fun _ => defaultValue (newarray.typeOf at0)))
    (hc0 : ip_cR R base ra cI cZ cJ (k, List.replicate N z) (.inl (cA, a0))) (hne : ip_ne hp mc = true) (hrc : mc + 1 ≤ Rm.cells) (hrs : ms + N ≤ Rm.slots)
    (hk : ip_good R p l e Rm s m args below meth c Q nL base Dg cI cZ cJ A ra (pc + 2, la, .inr (.inr (.inl (some hp.length))) :: st, hp ++ [(k, List.replicate N z)], mc + 1, ms + N, true)) : ip_good R p l e Rm s m args below meth c Q nL base Dg cI cZ cJ A ra (pc, la, .inl x :: st, hp, mc, ms, true) := by
  intro ls s1 H locs h1 h2 h3
  obtain ⟨w, s2, rfl, ⟨u, rfl, hx⟩, h2'⟩ := ip_all2_cons h2
  clear h2
  have h2 := h2'
  clear h2'
  obtain ⟨iv, hi1, hi2, hi3⟩ := ip_ix_some hi
  have hu := C.1.2.2.2 _ _ _ hi1 hx
  subst hu
  refine ip_W_sz (fun hsz => ?_)
  have hsize : H.size = base + hp.length := ip_size h3 rfl hne hsz
  obtain ⟨⟨ws, hR, hP, hD⟩, hS, hfz⟩ := h3
  have hby : N * componentBytes (newarray.typeOf at0) ≤ 536870912 := by
    refine Nat.le_trans (Nat.mul_le_mul hN (show componentBytes (newarray.typeOf at0) ≤ 8 by cases at0 <;> decide)) (by decide)
  refine va_newaK C.2.1 C.2.2.1 (C.2.2.2.2.2.1 _ hac) rfl hd rfl hi2 hi3 hby hrc hrs rfl fun H1 cA' e1 z1 o1 hAr hNm => ?_
  have hra : s.vm.findClass ("[" ++ (newarray.typeOf at0).toString) = some cA := by
    have h5 := (C.2.2.2.2.2.2.1.2 t0 _ ht).2
    cases at0 <;> exact h5
  have hcA : cA' = cA := Option.some.inj (hNm.symm.trans hra)
  subst hcA
  have hkp : ∀ (k : Nat) (x : Nat × va_E), ws[k]? = some x → H1[x.1]? = H[x.1]? := fun k x hx => o1 x.1 ((hP k x hx).lt)
  have hgo := hk ls (.ref H.size :: s2) H1 locs h1 ⟨by rw [hsize]; rfl, h2⟩ ⟨⟨ws ++ [(base + hp.length, .inl (cA', a0))], ip_hR_push hR hc0, (hP.kept hkp).app (fun k x hx => ?_), hD.push hP hsize.symm (C.2.2.2.2.2.2.2.1 _ (by rw [← hsize]; exact hS.1))⟩, ⟨Nat.le_trans hS.1 (by omega), fun x h1 h2 => (o1 x (Nat.lt_of_lt_of_le h1 hS.1)).trans (hS.2.1 x h1 h2), hS.2.2⟩, fun z => ?_⟩
  · exact hgo
  · have hz : k < 1 := (List.getElem?_eq_some_iff.mp hx).1
    rw [show k = 0 by omega] at hx
    cases hx
    show H1[base + hp.length]? = some (vp_cell _ _)
    rw [ha, ← hsize]
    exact e1
  · have h9 : s.heap.size + mc = base + hp.length := hfz rfl
    show s.heap.size + (mc + 1) = base + (hp ++ [_]).length
    rw [List.length_append, List.length_singleton]
    omega
theorem st_new (C : ip_Cx R ops p s m args meth c bs cls kd nL Dg cI cZ cJ A ra ro) {a x : Nat} (hd : decode bs pc = .ok (.new x, 3)) (hf : ip_CL.any (fun z => Nat.beq z.1 cls && (Nat.beq z.2.1 x && Nat.beq z.2.2.1 a)) = true) (hne : ip_ne hp mc = true) (hrc : mc + 1 ≤ Rm.cells) (hrs : ms + ip_N a ≤ Rm.slots)
    (hk : ip_good R p l e Rm s m args below meth c Q nL base Dg cI cZ cJ A ra (pc + 3, la, .inr (.inr (.inl (some hp.length))) :: st, hp ++ [(a, (List.range (ip_N a)).map (fun k => ip_dv (ops.1 0) (ip_Y a k)))], mc + 1, ms + ip_N a, true)) : ip_good R p l e Rm s m args below meth c Q nL base Dg cI cZ cJ A ra (pc, la, st, hp, mc, ms, true) := by
  intro ls s1 H locs h1 h2 h3
  obtain ⟨ha, hl1, hl2, hl3⟩ := ip_cl_w hf
  refine ip_W_sz (fun hsz => ?_)
  have hsize : H.size = base + hp.length := ip_size h3 rfl hne hsz
  obtain ⟨⟨ws, hR, hP, hD⟩, hS, hfz⟩ := h3
  have hKn := C.2.2.2.2.2.2.1.1 a _ (ip_vw ha)
  refine W.newcK C.2.1 C.2.2.1 C.2.2.2.2.1 (C.2.2.2.2.2.1 _ hl1) (C.2.2.2.2.2.1 _ hl2) (C.2.2.2.2.2.1 _ hl3) rfl hd hrc hrs hKn.2.1 rfl fun H1 kC hkC e1 z1 o1 => ?_
  have hkp : ∀ (k : Nat) (x : Nat × va_E), ws[k]? = some x → H1[x.1]? = H[x.1]? := fun k x hx => o1 x.1 ((hP k x hx).lt)
  have hb := u_born (ip_Y a) C.2.2.2.2.2.1 (ip_hin ha) hKn hkC e1 (ip_tyo ha)
  have hall : ∀ (L : List Nat), ip_all2 (ip_gR R base ra) (L.map (fun k => ip_dv (ops.1 0) (ip_Y a k))) (L.map (fun k => ip_dflt (ip_Y a k))) := by
    intro L
    induction L with
    | nil => trivial
    | cons k L ih =>
      refine ⟨?_, ih⟩
      show ip_gR R base ra (ip_dv (ops.1 0) (ip_Y a k)) (ip_dflt (ip_Y a k))
      generalize ip_Y a k = t
      cases t <;> first | exact ⟨0, rfl, C.1.1 0⟩ | rfl
  have hgo := hk ls (.ref H.size :: s1) H1 locs h1 ⟨by rw [hsize]; rfl, h2⟩ ⟨⟨ws ++ [(base + hp.length, .inr (a, (List.range (ip_N a)).map (fun k => ip_dflt (ip_Y a k))))], ip_hR_push hR (Or.inl ⟨ha, _, rfl, hall _⟩), (hP.kept hkp).app (fun k x hx => ?_), hD.push hP hsize.symm (C.2.2.2.2.2.2.2.1 _ (by rw [← hsize]; exact hS.1))⟩, ⟨Nat.le_trans hS.1 (by omega), fun x h1 h2 => (o1 x (Nat.lt_of_lt_of_le h1 hS.1)).trans (hS.2.1 x h1 h2), hS.2.2⟩, fun z => ?_⟩
  · exact hgo
  · have hz : k < 1 := (List.getElem?_eq_some_iff.mp hx).1
    rw [show k = 0 by omega] at hx
    cases hx
    rw [← hsize]
    refine ⟨_, ip_vw ha, hb.to (fun j hj => ?_)⟩
    exact ip_dflt_ok ha hj
  · have h9 : s.heap.size + mc = base + hp.length := hfz rfl
    show s.heap.size + (mc + 1) = base + (hp ++ [_]).length
    rw [List.length_append, List.length_singleton]
    omega
theorem st_obj (C : ip_Cx R ops p s m args meth c bs cls kd nL Dg cI cZ cJ A ra ro) {x q : Nat} (hd : decode bs pc = .ok (.invokespecial x, 3)) (hf : ip_OL.any (fun z => Nat.beq z.1 cls && Nat.beq z.2.1 x) = true) (hfr : 1 ≤ Rm.frames) (hlo : 24 ≤ Rm.locals) (hcat : ip_cat st ≤ 8)
    (hk : ip_good R p l e Rm s m args below meth c Q nL base Dg cI cZ cJ A ra (pc + 3, la, st, hp, mc, ms, fz)) : ip_good R p l e Rm s m args below meth c Q nL base Dg cI cZ cJ A ra (pc, la, .inr (.inr (.inl (some q))) :: st, hp, mc, ms, fz) := by
  intro ls s1 H locs h1 h2 h3
  obtain ⟨w, s2, rfl, hg, h2'⟩ := ip_all2_cons h2
  clear h2
  have h2 := h2'
  clear h2'
  cases hg
  have hls : ls.size = c.maxLocals := by obtain ⟨-, lv, h4, -⟩ := h1; rw [C.2.2.2.1]; exact h4.1
  have hr := lv_room (m := m) (pc := pc) (ls := ls) (rest := .ref (base + q) :: s2) (st := s2) (by rw [ip_cat_eq h2]; exact hcat)
  exact W.objInit C.2.1 C.2.2.1 C.2.2.2.2.1 (C.2.2.2.2.2.1 _ (ip_ol_w hf)) (C.2.2.2.2.2.1 _ ip_obI) (C.2.2.2.2.2.1 _ ip_obC) rfl hls rfl hd hfr (show 2 * (F0 m pc ls (.ref (base + q) :: s2)).monitorRoom + (s2.map fun v => v.category).sum + 12 ≤ Rm.locals by omega) (hk ls s2 H locs h1 h2 h3)
theorem st_max (C : ip_Cx R ops p s m args meth c bs cls kd nL Dg cI cZ cJ A ra ro) {x y z : D} {t : Bool} (hcls : cls = 1) (hd : decode bs pc = .ok (.invokestatic 85, 3)) (hfr : 1 ≤ Rm.frames) (hlo : 24 ≤ Rm.locals) (hcat : ip_cat st ≤ 8) (hrc : mc ≤ Rm.cells) (hrs : ms ≤ Rm.slots) (ht : ops.2.2.1 2 x y = some t) (hz : z = if t = true then y else x)
    (hk : ip_good R p l e Rm s m args below meth c Q nL base Dg cI cZ cJ A ra (pc + 3, la, .inl z :: st, hp, mc, ms, fz)) : ip_good R p l e Rm s m args below meth c Q nL base Dg cI cZ cJ A ra (pc, la, .inl y :: .inl x :: st, hp, mc, ms, fz) := by
  intro ls s1 H locs h1 h2 h3
  obtain ⟨w, s2, rfl, ⟨v, rfl, hy⟩, h2'⟩ := ip_all2_cons h2
  clear h2
  have h2 := h2'
  clear h2'
  obtain ⟨w2, s2, rfl, ⟨u, rfl, hx⟩, h2'⟩ := ip_all2_cons h2
  clear h2
  have h2 := h2'
  clear h2'
  have hls : ls.size = c.maxLocals := by obtain ⟨-, lv, h4, -⟩ := h1; rw [C.2.2.2.1]; exact h4.1
  have hc := C.1.2.2.1 _ _ _ _ _ _ ht hx hy
  subst hcls
  refine va_mmax C.2.1 C.2.2.1 hls.symm C.2.2.2.2.1 (C.2.2.2.2.2.1 _ ip_mxL) (C.2.2.2.2.2.1 _ ip_mxS) (C.2.2.2.2.2.1 _ ip_mxI) (C.2.2.2.2.2.1 _ ip_mxC) hfr (by rw [ip_cat_eq h2]; omega) hrc hrs hd (hk ls _ H locs h1 ⟨⟨_, rfl, ?_⟩, h2⟩ h3)
  subst hz
  subst hc
  unfold ip_cI
  by_cases q : u < v
  · simp only [q, decide_true, if_true]; exact hy
  · simp only [q, decide_false, Bool.false_eq_true, if_false]; exact hx
end Steps3
end
section
section Steps4
variable {D : Type} {R : D → Int32 → Prop} {ops : ip_O D} {p : Program} {l : Launch} {e : Env} {Rm : Room} {s : State} {m : MethodId} {args : Array Value} {below : List Frame} {meth : Method} {c : Code} {Q : State → Prop} {bs : ByteArray} {cls kd nL base : Nat} {Dg : va_G} {cI cZ cJ : ClassId} {A : Nat → Prop} {ra : Nat → Nat} {ro : List (List D)}
variable {pc mc ms : Nat} {la : List (Option (ip_V D))} {st : List (ip_V D)} {hp : ip_Hp D} {fz : Bool}
theorem ip_bin_ok (C : ip_Cx R ops p s m args meth c bs cls kd nL Dg cI cZ cJ A ra ro) {i : Instr} {o : Nat} {f' : ip_Fr D} (hd : decode bs pc = .ok (i, 1)) (hi : (i = .iadd ∧ o = 0) ∨ (i = .isub ∧ o = 1) ∨ (i = .imul ∧ o = 2) ∨ (i = .idiv ∧ o = 3) ∨ (i = .irem ∧ o = 4) ∨ (i = .iand ∧ o = 5) ∨ (i = .ishr ∧ o = 6) ∨ (i = .iushr ∧ o = 7))
    (h : ip_bin ops o (pc + 1) (pc, la, st, hp, mc, ms, fz) = some (.inl f')) (hk : ip_good R p l e Rm s m args below meth c Q nL base Dg cI cZ cJ A ra f') : ip_good R p l e Rm s m args below meth c Q nL base Dg cI cZ cJ A ra (pc, la, st, hp, mc, ms, fz) := by
  unfold ip_bin at h
  split at h
  · rename_i heq
    cases heq
    split at h
    · cases h
      exact st_bin C hd hi (by assumption) hk
    · cases h
  · cases h
theorem ip_ast_ok (C : ip_Cx R ops p s m args meth c bs cls kd nL Dg cI cZ cJ A ra ro) {i : Instr} {k0 : Nat} {d : D} {v : ip_V D} {f' : ip_Fr D} (hd : decode bs pc = .ok (i, 1)) (hi : (i = .iastore ∧ k0 = 20 ∧ v = .inl d) ∨ (i = .bastore ∧ k0 = 21 ∧ v = .inl d ∧ ip_bit (ops.2.2.2 d) = true) ∨ (i = .lastore ∧ k0 = 22 ∧ v = .inr (.inl d)))
    (h : ip_ast ops k0 (pc + 1) v (pc, la, st, hp, mc, ms, fz) = some (.inl f')) (hk : ip_good R p l e Rm s m args below meth c Q nL base Dg cI cZ cJ A ra f') : ip_good R p l e Rm s m args below meth c Q nL base Dg cI cZ cJ A ra (pc, la, v :: st, hp, mc, ms, fz) := by
  unfold ip_ast at h
  split at h
  · rename_i heq
    cases heq
    split at h
    · rename_i kd' cs h1 h2
      cases hb : Nat.beq k0 kd' with
      | false => rw [hb] at h; cases h
      | true =>
        have e1 : k0 = kd' := Nat.eq_of_beq_eq_true hb
        subst e1
        rw [hb] at h
        dsimp only [cond_true] at h
        split at h
        · rename_i w h3
          cases h
          rcases hi with ⟨rfl, rfl, rfl⟩ | ⟨rfl, rfl, rfl, hb0⟩ | ⟨rfl, rfl, rfl⟩
          · exact st_iast C hd h1 h2 h3 hk
          · exact st_zast C hd hb0 h1 h2 h3 hk
          · exact st_last C hd h1 h2 h3 hk
        · cases h
    · cases h
  · cases h
theorem ip_ald_ok (C : ip_Cx R ops p s m args meth c bs cls kd nL Dg cI cZ cJ A ra ro) {i : Instr} {k0 : Nat} {f' : ip_Fr D} (hd : decode bs pc = .ok (i, 1)) (hi : (i = .iaload ∧ k0 = 20) ∨ (i = .baload ∧ k0 = 21) ∨ (i = .laload ∧ k0 = 22))
    (h : ip_ald ops k0 (pc + 1) (pc, la, st, hp, mc, ms, fz) = some (.inl f')) (hk : ip_good R p l e Rm s m args below meth c Q nL base Dg cI cZ cJ A ra f') : ip_good R p l e Rm s m args below meth c Q nL base Dg cI cZ cJ A ra (pc, la, st, hp, mc, ms, fz) := by
  unfold ip_ald at h
  split at h
  · rename_i heq
    cases heq
    split at h
    · rename_i kd' cs h1 h2
      cases hb : Nat.beq k0 kd' with
      | false => rw [hb] at h; cases h
      | true =>
        have e1 : k0 = kd' := Nat.eq_of_beq_eq_true hb
        subst e1
        rw [hb] at h
        dsimp only [cond_true] at h
        split at h
        · rename_i w h3
          cases h
          rcases hi with ⟨rfl, rfl⟩ | ⟨rfl, rfl⟩ | ⟨rfl, rfl⟩
          · exact st_iald C hd h1 h2 h3 hk
          · exact st_zald C hd h1 h2 h3 hk
          · exact st_lald C hd h1 h2 h3 hk
        · cases h
    · cases h
  · cases h
theorem ip_mka_ok (C : ip_Cx R ops p s m args meth c bs cls kd nL Dg cI cZ cJ A ra ro) {at0 : ArrayType} {k0 rc rs : Nat} {z : ip_V D} {f' : ip_Fr D} (hd : decode bs pc = .ok (.newarray at0, 2)) (hRc : Rm.cells = rc) (hRs : Rm.slots = rs) (hi : (at0 = .int ∧ k0 = 20 ∧ z = .inl (ops.1 0)) ∨ (at0 = .boolean ∧ k0 = 21 ∧ z = .inl (ops.1 0)) ∨ (at0 = .long ∧ k0 = 22 ∧ z = .inr (.inl (ops.1 0))))
    (h : ip_mka ops rc rs k0 z (pc + 2) (pc, la, st, hp, mc, ms, fz) = some (.inl f')) (hk : ip_good R p l e Rm s m args below meth c Q nL base Dg cI cZ cJ A ra f') : ip_good R p l e Rm s m args below meth c Q nL base Dg cI cZ cJ A ra (pc, la, st, hp, mc, ms, fz) := by
  unfold ip_mka at h
  split at h
  · rename_i heq
    cases heq
    split at h
    · rename_i N h1
      cases hb : (ip_ne hp mc && (Nat.ble (mc + 1) rc && (Nat.ble (ms + N) rs && Nat.ble N 1000))) with
      | false => rw [hb] at h; cases h
      | true =>
        rw [hb] at h
        cases h
        simp only [Bool.and_eq_true, Nat.ble_eq] at hb
        obtain ⟨hb1, hb2, hb3, hb4⟩ := hb
        have hrep : ∀ (y : ip_V D) (k : Nat) (v : ip_V D), (List.replicate N y)[k]? = some v → v = y := fun y k v hv => by
          have := List.mem_of_getElem? hv
          exact (List.mem_replicate.mp this).2
        rcases hi with ⟨rfl, rfl, rfl⟩ | ⟨rfl, rfl, rfl⟩ | ⟨rfl, rfl, rfl⟩
        · refine st_mka C (t0 := 0) (a0 := (N, .inl (fun _ => 0))) hd ip_acI h1 hb4 rfl (fun cA => rfl) (Or.inr (Or.inl ⟨rfl, _, by simp, fun k v hv => ⟨_, hrep _ k v hv, C.1.1 0⟩⟩)) hb1 (by rw [hRc]; exact hb2) (by rw [hRs]; exact hb3) hk
        · refine st_mka C (t0 := 1) (a0 := (N, .inl (fun _ => 0))) hd ip_acZ h1 hb4 rfl (fun cA => rfl) (Or.inr (Or.inr (Or.inl ⟨rfl, _, by simp, fun k v hv => ⟨_, hrep _ k v hv, C.1.1 0⟩⟩))) hb1 (by rw [hRc]; exact hb2) (by rw [hRs]; exact hb3) hk
        · refine st_mka C (t0 := 2) (a0 := (N, .inr (.inl (fun _ => 0)))) hd ip_acJ h1 hb4 rfl (fun cA => rfl) (Or.inr (Or.inr (Or.inr ⟨rfl, _, by simp, fun k v hv => ⟨_, 0, hrep _ k v hv, C.1.1 0, rfl⟩⟩))) hb1 (by rw [hRc]; exact hb2) (by rw [hRs]; exact hb3) hk
    · cases h
  · cases h
theorem ip_inv_no {a b nx : Nat} {f f' : ip_Fr D} (h : ip_inv a b nx f = some (.inl f')) : False := by
  unfold ip_inv at h
  split at h
  split at h
  · rename_i as st' h1
    cases hb : (ip_ne _ _ && Nat.ble (ip_cat st') 8) <;> rw [hb] at h <;> cases h
  · cases h
theorem ip_br_ok {t : Option Bool} {nx a : Nat} {f' : ip_Fr D} (h : ip_br t nx a la st hp mc ms fz = some (.inl f')) : ∃ b, t = some b ∧ f' = ((if b = true then a else nx), la, st, hp, mc, ms, fz) := by
  unfold ip_br at h
  split at h
  · cases h; exact ⟨true, rfl, rfl⟩
  · cases h; exact ⟨false, rfl, rfl⟩
  · cases h
set_option maxHeartbeats 4000000 in
theorem ip_step_ok (C : ip_Cx R ops p s m args meth c bs cls kd nL Dg cI cZ cJ A ra ro) {x : ip_E} {f' : ip_Fr D} {rc rs : Nat} {y : MethodName} {ret : Option FieldType} {pcode size : Nat} {z9 : Nat × Nat} (hRc : Rm.cells = rc) (hRs : Rm.slots = rs) (hok : ip_ok (y, bs, ret, cls, kd, pcode, Rm.frames, Rm.locals, size, z9) pc x = true)
    (h : ip_step ops ro rc rs x (pc, la, st, hp, mc, ms, fz) = some (.inl f')) (hk : ip_good R p l e Rm s m args below meth c Q nL base Dg cI cZ cJ A ra f') : ip_good R p l e Rm s m args below meth c Q nL base Dg cI cZ cJ A ra (pc, la, st, hp, mc, ms, fz) := by
  obtain ⟨i, nx, a, b, c0⟩ := x
  unfold ip_ok at hok
  dsimp only at hok
  rw [Bool.and_eq_true, Bool.and_eq_true, decide_eq_true_eq] at hok
  obtain ⟨⟨hdec, hln⟩, hok⟩ := hok
  have key : Nat.beq (ip_ln i) 0 = false → nx = pc + ip_ln i ∧ decode bs pc = .ok (i, ip_ln i) := by
    intro q
    rw [q, Bool.false_or] at hln
    have e1 := Nat.eq_of_beq_eq_true hln
    refine ⟨e1, ?_⟩
    rw [hdec, e1, Nat.add_sub_cancel_left]
  unfold ip_step at h
  dsimp only at h
  cases i with
  | iconst v =>
    unfold ip_sK at h
    obtain ⟨hn, hd⟩ := key rfl
    cases h
    exact st_const C hn hd (Or.inl ⟨v, rfl, rfl⟩) hk
  | bipush v =>
    unfold ip_sK at h
    obtain ⟨hn, hd⟩ := key rfl
    cases h
    exact st_const C hn hd (Or.inr (Or.inl ⟨v, rfl, rfl⟩)) hk
  | sipush v =>
    unfold ip_sK at h
    obtain ⟨hn, hd⟩ := key rfl
    cases h
    exact st_const C hn hd (Or.inr (Or.inr ⟨v, rfl, rfl⟩)) hk
  | iload k =>
    unfold ip_sLd at h
    obtain ⟨hn, hd⟩ := key rfl
    dsimp only at h
    split at h
    · cases h
      exact st_iload C hn hd (Or.inl rfl) (by assumption) hk
    · cases h
  | iload_n k =>
    unfold ip_sLd at h
    obtain ⟨hn, hd⟩ := key rfl
    dsimp only at h
    split at h
    · cases h
      exact st_iload C hn hd (Or.inr ⟨k, rfl, rfl⟩) (by assumption) hk
    · cases h
  | aload k =>
    unfold ip_sLa at h
    obtain ⟨hn, hd⟩ := key rfl
    dsimp only at h
    split at h
    · cases h
      refine st_aload C hn hd (Or.inl rfl) (by assumption) ?_ hk
      exact fun w hw => ⟨_, hw⟩
    · cases h
      refine st_aload C hn hd (Or.inl rfl) (by assumption) ?_ hk
      exact fun w hw => ⟨_, hw⟩
    · cases h
  | aload_n k =>
    unfold ip_sLa at h
    obtain ⟨hn, hd⟩ := key rfl
    dsimp only at h
    split at h
    · cases h
      refine st_aload C hn hd (Or.inr ⟨k, rfl, rfl⟩) (by assumption) ?_ hk
      exact fun w hw => ⟨_, hw⟩
    · cases h
      refine st_aload C hn hd (Or.inr ⟨k, rfl, rfl⟩) (by assumption) ?_ hk
      exact fun w hw => ⟨_, hw⟩
    · cases h
  | istore k =>
    unfold ip_sSt at h
    obtain ⟨hn, hd⟩ := key rfl
    dsimp only at h
    split at h
    · cases h
      exact st_istore C hn hd (Or.inl rfl) (by assumption) hk
    · cases h
  | istore_n k =>
    unfold ip_sSt at h
    obtain ⟨hn, hd⟩ := key rfl
    dsimp only at h
    split at h
    · cases h
      exact st_istore C hn hd (Or.inr ⟨k, rfl, rfl⟩) (by assumption) hk
    · cases h
  | astore k =>
    unfold ip_sSa at h
    obtain ⟨hn, hd⟩ := key rfl
    dsimp only at h
    split at h
    · cases h
      exact st_astore C hn hd (Or.inl rfl) (by assumption) hk
    · cases h
  | astore_n k =>
    unfold ip_sSa at h
    obtain ⟨hn, hd⟩ := key rfl
    dsimp only at h
    split at h
    · cases h
      exact st_astore C hn hd (Or.inr ⟨k, rfl, rfl⟩) (by assumption) hk
    · cases h
  | iinc k v =>
    unfold ip_sInc at h
    obtain ⟨hn, hd⟩ := key rfl
    subst hn
    dsimp only at h
    split at h
    · split at h
      · cases h
        exact st_iinc C hd (by assumption) (by assumption) hk
      · cases h
    · cases h
  | dup =>
    unfold ip_sDup at h
    obtain ⟨hn, hd⟩ := key rfl
    subst hn
    dsimp only at h
    split at h
    · rename_i v r
      cases hb : ip_one v with
      | false => rw [hb] at h; cases h
      | true => rw [hb] at h; cases h; exact st_dup C hd hb hk
    · cases h
  | dup2 =>
    unfold ip_sDu2 at h
    obtain ⟨hn, hd⟩ := key rfl
    subst hn
    dsimp only at h
    split at h
    · rename_i v w r
      cases hb : (ip_one v && ip_one w) with
      | false => rw [hb] at h; cases h
      | true =>
        rw [hb] at h
        cases h
        rw [Bool.and_eq_true] at hb
        exact st_dup2 C hd hb.1 hb.2 hk
    · cases h
  | pop =>
    unfold ip_sPop at h
    obtain ⟨hn, hd⟩ := key rfl
    subst hn
    dsimp only at h
    split at h
    · rename_i v r
      cases hb : ip_one v with
      | false => rw [hb] at h; cases h
      | true => rw [hb] at h; cases h; exact st_pop C hd hb hk
    · cases h
  | iadd =>
    obtain ⟨hn, hd⟩ := key rfl
    subst hn
    exact ip_bin_ok C hd (by simp) h hk
  | isub =>
    obtain ⟨hn, hd⟩ := key rfl
    subst hn
    exact ip_bin_ok C hd (by simp) h hk
  | imul =>
    obtain ⟨hn, hd⟩ := key rfl
    subst hn
    exact ip_bin_ok C hd (by simp) h hk
  | idiv =>
    obtain ⟨hn, hd⟩ := key rfl
    subst hn
    exact ip_bin_ok C hd (by simp) h hk
  | irem =>
    obtain ⟨hn, hd⟩ := key rfl
    subst hn
    exact ip_bin_ok C hd (by simp) h hk
  | iand =>
    obtain ⟨hn, hd⟩ := key rfl
    subst hn
    exact ip_bin_ok C hd (by simp) h hk
  | ishr =>
    obtain ⟨hn, hd⟩ := key rfl
    subst hn
    exact ip_bin_ok C hd (by simp) h hk
  | iushr =>
    obtain ⟨hn, hd⟩ := key rfl
    subst hn
    exact ip_bin_ok C hd (by simp) h hk
  | ineg =>
    unfold ip_sNeg at h
    obtain ⟨hn, hd⟩ := key rfl
    subst hn
    dsimp only at h
    split at h
    · split at h
      · cases h
        exact st_ineg C hd (by assumption) hk
      · cases h
    · cases h
  | i2l =>
    unfold ip_sI2l at h
    obtain ⟨hn, hd⟩ := key rfl
    subst hn
    dsimp only at h
    split at h
    · cases h
      exact st_i2l C hd hk
    · cases h
  | lcmp =>
    unfold ip_sLc at h
    obtain ⟨hn, hd⟩ := key rfl
    subst hn
    dsimp only at h
    split at h
    · split at h
      · cases h
        exact st_lcmp C hd (by assumption) hk
      · cases h
    · cases h
  | ifCond k off =>
    unfold ip_sIf at h
    obtain ⟨hn, hd⟩ := key rfl
    subst hn
    dsimp only at h hok
    rw [decide_eq_true_eq] at hok
    split at h
    · obtain ⟨t, h1, rfl⟩ := ip_br_ok h
      exact st_if C hd hok h1 hk
    · cases h
  | if_icmp k off =>
    unfold ip_sIc at h
    obtain ⟨hn, hd⟩ := key rfl
    subst hn
    dsimp only at h hok
    rw [decide_eq_true_eq] at hok
    split at h
    · obtain ⟨t, h1, rfl⟩ := ip_br_ok h
      exact st_icmp C hd hok h1 hk
    · cases h
  | goto off =>
    unfold ip_sGo at h
    obtain ⟨hn, hd⟩ := key rfl
    subst hn
    dsimp only at h hok
    rw [decide_eq_true_eq] at hok
    cases h
    exact st_goto C hd hok hk
  | tableswitch d lo hi offs =>
    unfold ip_sTs at h
    dsimp only at h
    split at h
    · split at h
      · split at h
        · split at h
          · cases h
            exact st_tsw C hdec (by assumption) (Or.inl ⟨by assumption, by assumption⟩) hk
          · cases h
        · split at h
          · split at h
            · cases h
              exact st_tsw C hdec (by assumption) (Or.inr ⟨by assumption, _, by assumption, by assumption⟩) hk
            · cases h
          · cases h
      · split at h
        · rename_i h1
          cases h
          obtain ⟨h2, h3, h4, h5⟩ := h1
          exact st_tsw2 C hdec h2 h3 h4 h5 hk
        · cases h
    · cases h
  | lookupswitch d ps =>
    unfold ip_sLs at h
    dsimp only at h
    split at h
    · split at h
      · split at h
        · rename_i h1
          cases h
          exact st_lsw C hdec (by assumption) h1.1 h1.2 hk
        · cases h
      · cases h
    · cases h
  | getfield q =>
    unfold ip_sGf at h
    obtain ⟨hn, hd⟩ := key rfl
    subst hn
    dsimp only at h hok
    split at h
    · split at h
      · rename_i kd' fs h1
        cases hb : Nat.beq kd' a with
        | false => rw [hb] at h; cases h
        | true =>
          have e1 := Nat.eq_of_beq_eq_true hb
          subst e1
          rw [hb] at h
          dsimp only [cond_true] at h
          split at h
          · cases h
            exact st_get C hd hok h1 (by assumption) hk
          · cases h
      · cases h
    · cases h
  | putfield q =>
    unfold ip_sPf at h
    obtain ⟨hn, hd⟩ := key rfl
    subst hn
    dsimp only at h hok
    rw [Bool.and_eq_true] at hok
    obtain ⟨hok1, hok2⟩ := hok
    split at h
    · split at h
      · rename_i kd' fs h1
        cases hb : Nat.beq kd' a with
        | false => rw [hb] at h; cases h
        | true =>
          have e1 := Nat.eq_of_beq_eq_true hb
          subst e1
          rw [hb] at h
          dsimp only [cond_true] at h
          split at h
          · rename_i v0 h2
            split at h
            · cases h
              simp only [Bool.and_eq_true, decide_eq_true_eq, Bool.not_eq_true'] at hok2
              exact st_put C hd hok1 h1 h2 (Or.inl hok2.2) (fun w hw => by obtain ⟨i, rfl, -⟩ := hw; rw [hok2.1]; exact ip_fitI i) hk
            · rename_i d
              cases hb2 : ip_bit (ops.2.2.2 d) with
              | false => rw [hb2] at h; cases h
              | true =>
                rw [hb2] at h
                cases h
                simp only [Bool.and_eq_true, decide_eq_true_eq, Bool.not_eq_true'] at hok2
                exact st_put C hd hok1 h1 h2 (Or.inl hok2.2) (fun w hw => by
                  obtain ⟨i, rfl, hi⟩ := hw
                  rw [hok2.1]
                  obtain ⟨bv, hb1, hb2⟩ := ip_bit_some hb2
                  have := C.1.2.2.2 _ _ _ hb1 hi
                  subst this
                  exact ip_fitZ hb2) hk
            · cases h
              simp only [Bool.and_eq_true, Nat.beq_eq] at hok2
              obtain ⟨o1, o2, o3, o4⟩ := hok2
              exact st_put C hd hok1 h1 h2 (Or.inr ⟨o2, o3, o4⟩) (fun w hw => by cases hw; exact ip_fitA o1 _) hk
            · cases h
          · cases h
      · cases h
    · cases h
  | getstatic q =>
    unfold ip_sGs at h
    obtain ⟨hn, hd⟩ := key rfl
    subst hn
    dsimp only at h hok
    cases h
    exact st_gets C hd hok hk
  | iaload =>
    unfold ip_sIal at h
    obtain ⟨hn, hd⟩ := key rfl
    subst hn
    dsimp only at h
    split at h
    · split at h
      · split at h
        · cases h
          exact st_roald C hd (by assumption) (by assumption) (by assumption) hk
        · cases h
      · cases h
    · exact ip_ald_ok C hd (by simp) h hk
  | baload =>
    obtain ⟨hn, hd⟩ := key rfl
    subst hn
    exact ip_ald_ok C hd (by simp) h hk
  | laload =>
    obtain ⟨hn, hd⟩ := key rfl
    subst hn
    exact ip_ald_ok C hd (by simp) h hk
  | iastore =>
    unfold ip_sIas at h
    obtain ⟨hn, hd⟩ := key rfl
    subst hn
    dsimp only at h
    split at h
    · rename_i d r
      exact ip_ast_ok C (d := d) hd (by simp) h hk
    · cases h
  | bastore =>
    unfold ip_sBas at h
    obtain ⟨hn, hd⟩ := key rfl
    subst hn
    dsimp only at h
    split at h
    · rename_i d r
      cases hb : ip_bit (ops.2.2.2 d) with
      | false => rw [hb] at h; cases h
      | true =>
        rw [hb] at h
        exact ip_ast_ok C (d := d) hd (by simp [hb]) h hk
    · cases h
  | lastore =>
    unfold ip_sLas at h
    obtain ⟨hn, hd⟩ := key rfl
    subst hn
    dsimp only at h
    split at h
    · rename_i d r
      exact ip_ast_ok C (d := d) hd (by simp) h hk
    · cases h
  | arraylength =>
    unfold ip_sLen at h
    obtain ⟨hn, hd⟩ := key rfl
    subst hn
    dsimp only at h
    split at h
    · split at h
      · cases h
        exact st_rolen C hd (by assumption) hk
      · cases h
    · cases h
  | newarray at0 =>
    obtain ⟨hn, hd⟩ := key rfl
    subst hn
    cases at0 with
    | int => exact ip_mka_ok C hd hRc hRs (by simp) h hk
    | boolean => exact ip_mka_ok C hd hRc hRs (by simp) h hk
    | long => exact ip_mka_ok C hd hRc hRs (by simp) h hk
    | _ => cases h
  | new q =>
    unfold ip_sNew at h
    obtain ⟨hn, hd⟩ := key rfl
    subst hn
    dsimp only at h hok
    split at h
    · cases hb : (ip_ne hp mc && (Nat.ble (mc + 1) rc && Nat.ble (ms + ip_N a) rs)) with
      | false => rw [hb] at h; cases h
      | true =>
        rw [hb] at h
        cases h
        simp only [Bool.and_eq_true, Nat.ble_eq] at hb
        exact st_new C hd hok hb.1 (by rw [hRc]; exact hb.2.1) (by rw [hRs]; exact hb.2.2) hk
    · cases h
  | invokevirtual q => exact (ip_inv_no h).elim
  | invokestatic q =>
    unfold ip_sIs at h
    obtain ⟨hn, hd⟩ := key rfl
    subst hn
    dsimp only at h hok
    split at h
    · split at h
      · rename_i yv xv r
        cases hb : (Nat.ble (ip_cat r) 8 && (Nat.ble mc rc && Nat.ble ms rs)) with
        | false => rw [hb] at h; cases h
        | true =>
          rw [hb] at h
          dsimp only [cond_true] at h
          simp only [Bool.and_eq_true, Nat.ble_eq] at hb
          simp only [Bool.and_eq_true, Nat.ble_eq, Nat.beq_eq] at hok
          obtain ⟨o1, o2, o3, o4⟩ := hok
          subst o2
          split at h
          · cases h
            exact st_max C (t := true) o1 hd o3 o4 hb.1 (by rw [hRc]; exact hb.2.1) (by rw [hRs]; exact hb.2.2) (by assumption) rfl hk
          · cases h
            exact st_max C (t := false) o1 hd o3 o4 hb.1 (by rw [hRc]; exact hb.2.1) (by rw [hRs]; exact hb.2.2) (by assumption) rfl hk
          · cases h
      · cases h
    · exact (ip_inv_no h).elim
  | invokespecial q =>
    unfold ip_sIp at h
    obtain ⟨hn, hd⟩ := key rfl
    subst hn
    dsimp only at h hok
    split at h
    · exact (ip_inv_no h).elim
    · split at h
      · rename_i k r
        cases hb : Nat.ble (ip_cat r) 8 with
        | false => rw [hb] at h; cases h
        | true =>
          rw [hb] at h
          cases h
          simp only [Bool.and_eq_true, Nat.ble_eq] at hok
          exact st_obj C hd hok.1 hok.2.1 hok.2.2 (Nat.le_of_ble_eq_true hb) hk
      · cases h
    · cases h
  | _ => cases h
end Steps4
end
section
section Calls0
theorem ip_Gin {w : Cond} (h : w ∈ ip_G) : w ∈ ip_G ∧ ((w.onTables && w.keeps) = true ∨ ∃ ty, w = .arrayClass ty) := ⟨h, good_of_word (List.mem_filter.mp h).2⟩
theorem ip_GG {w : Cond} (h : w ∈ ip_G) : GoodIn ip_G (w :: ip_G) := fun _ h2 => by
  rcases List.mem_cons.mp h2 with rfl | h2
  · exact ip_Gin h
  · exact ip_Gin h2
theorem ip_arg_ok {D : Type} : ∀ (n : Nat) (acc st : List (ip_V D)) {as st' : List (ip_V D)}, ip_arg n acc st = some (as, st') → ∃ pre, st = pre ++ st' ∧ pre.length = n ∧ as = pre.reverse ++ acc ∧ ∀ v ∈ pre, ip_one v = true
  | 0, acc, st, as, st', h => by cases h; exact ⟨[], rfl, rfl, rfl, fun _ h => by cases h⟩
  | n + 1, acc, [], as, st', h => by cases h
  | n + 1, acc, v :: st, as, st', h => by
    unfold ip_arg at h
    cases hb : ip_one v with
    | false => rw [hb] at h; cases h
    | true =>
      rw [hb] at h
      obtain ⟨pre, h1, h2, h3, h4⟩ := ip_arg_ok n (v :: acc) st h
      refine ⟨v :: pre, by rw [h1]; rfl, by rw [List.length_cons, h2], by rw [h3]; simp, fun w hw => ?_⟩
      rcases List.mem_cons.mp hw with rfl | hw
      · exact hb
      · exact h4 w hw
theorem ip_lv_args : ∀ (vs : List Value) (i k : Nat) (v : Value), (∀ v ∈ vs, v.category = 1) → vs[k]? = some v → (i + k, v) ∈ lv_args i vs
  | [], i, k, v, _, h => by simp at h
  | w :: vs, i, 0, v, hc, h => by
    simp at h
    subst h
    exact List.mem_cons_self
  | w :: vs, i, k + 1, v, hc, h => by
    simp at h
    have h1 : w.category = 1 := hc w List.mem_cons_self
    unfold lv_args
    rw [if_neg (by omega)]
    refine List.mem_cons_of_mem _ ?_
    have := ip_lv_args vs (i + 1) k v (fun v hv => hc v (List.mem_cons_of_mem _ hv)) h
    rwa [show i + (k + 1) = i + 1 + k by omega]
theorem ip_lg_sl : ∀ (vs : List Value), (∀ v ∈ vs, v.category = 1) → (lg_sl vs).length = vs.length
  | [], _ => rfl
  | w :: vs, hc => by
    have h1 : w.category = 1 := hc w List.mem_cons_self
    have h2 := ip_lg_sl vs (fun v hv => hc v (List.mem_cons_of_mem _ hv))
    unfold lg_sl at h2 ⊢
    rw [List.flatMap_cons, List.length_append, h2, if_neg (by omega)]
    simp
    omega
theorem ip_all2_cat {D : Type} {R : D → Int32 → Prop} {base : Nat} {ra : Nat → Nat} {as : List (ip_V D)} : ∀ {vs : List Value}, ip_all2 (ip_gR R base ra) as vs → (∀ v ∈ as, ip_one v = true) → ∀ v ∈ vs, v.category = 1 := by
  induction as with
  | nil => intro vs h _; rw [ip_all2_nil h]; intro v hv; cases hv
  | cons a as ih =>
    intro vs h hc
    obtain ⟨b, bs1, rfl, h1, h2⟩ := ip_all2_cons h
    intro v hv
    rcases List.mem_cons.mp hv with rfl | hv
    · exact ip_one_cat (hc a List.mem_cons_self) h1
    · exact ih h2 (fun v hv => hc v (List.mem_cons_of_mem _ hv)) v hv
end Calls0
section Calls1
variable {D : Type} (R : D → Int32 → Prop) (base : Nat) (ra : Nat → Nat) (cI cZ cJ : ClassId) (Dg : va_G) (ro : List (List D))
/-- a callee's start -/
def ip_Pc (hp : ip_Hp D) (fz : Bool) (ws : va_W) (sz : Nat) (vs : List Value) : Array Value → State → Prop := va_Pc vs (fun U => U.heap.size = sz ∧ va_P Dg vwCl ws U.heap ∧ va_K Dg vwCl [(cI, .int), (cZ, .boolean), (cJ, .long)] U ∧ va_D (fun _ => True) ws ∧ ip_ro R ra ro (va_A ws sz) U ∧ (fz = true → U.heap.size = base + hp.length))
/-- a callee's end -/
def ip_Qc (bc : Nat) (hp' : ip_Hp D) (fz' : Bool) (ws : va_W) (sz : Nat) (ret : List (ip_V D)) : Array Value → State → Outcome → State → Prop := fun _ st oc t =>
  (∃ (v : Option Value) (ws' : va_W), oc = .returned v ∧ ip_all2 (ip_gR R base ra) ret v.toList ∧ ip_hR R base ra cI cZ cJ hp' ws' ∧ va_P Dg vwCl ws' t.heap ∧ va_D (va_A ws sz) ws' ∧ (fz' = true → sz + bc = base + hp'.length)) ∧ va_F (va_A ws sz) st t
theorem ip_ro_to {A B : Nat → Prop} {s U : State} {H : Heap} {locs : List Loc} (h : ip_ro R ra ro A s) (hS : va_S A s.heap H locs) (hAB : ∀ q, B q → A q) (hW : s.WarmedH U.vm) (hU : U.heap = H) : ip_ro R ra ro B U := by
  have hvm := hW.alike
  refine ⟨fun t ds ht => ?_, fun t ht => ?_, ip_xs_to h.2.2 hS hAB hW hU⟩ <;> subst hU
  · obtain ⟨xs, h1, h2⟩ := h.1 t ds ht
    exact ⟨xs, va_T.moved hvm (va_T.narrow (va_T.kept h1 hS.2.1) hAB), h2⟩
  · exact va_Z.moved hvm (va_Z.narrow (va_Z.kept (h.2.1 t ht) hS.2.1) hAB)
theorem ip_Pc_blind {hp : ip_Hp D} {fz : Bool} {ws : va_W} {sz : Nat} {vs : List Value} : FrameBlind (ip_Pc R base ra cI cZ cJ Dg ro hp fz ws sz vs) := by
  intro a U g mk q
  obtain ⟨q0, q1, qP, qK, qD, qr, qf⟩ := q
  refine ⟨q0, q1, qP, va_K.moved (u := U) (U := U.calling g mk a) (Vm.Alike.refl U.vm) qK, qD, ?_, qf⟩
  exact ⟨fun t ds ht => (qr.1 t ds ht).elim (fun xs h => ⟨xs, va_T.moved (u := U) (U := U.calling g mk a) (Vm.Alike.refl U.vm) h.1, h.2⟩), fun t ht => va_Z.moved (u := U) (U := U.calling g mk a) (Vm.Alike.refl U.vm) (qr.2.1 t ht), ip_xs_same qr.2.2 rfl rfl⟩
end Calls1
section Calls2
variable {D : Type} {R : D → Int32 → Prop} {ops : ip_O D} {l : Launch} {base : Nat} {Dg : va_G} {cI cZ cJ : ClassId} {ra : Nat → Nat} {ro : List (List D)}
/-- a run is sound -/
def ip_RS (R : D → Int32 → Prop) (ops : ip_O D) (ro : List (List D)) (l : Launch) (base : Nat) (Dg : va_G) (cI cZ cJ : ClassId) (ra : Nat → Nat) (run : Nat → ip_Fr D → Option (ip_Fr D)) : Prop :=
  ∀ (j : Nat) (y : MethodName) (bs : ByteArray) (ret : Option FieldType) (cls kd pcode fr lo size : Nat) (z9 : Nat × Nat), ip_ML[j]? = some (y, bs, ret, cls, kd, pcode, fr, lo, size, z9) → ∀ (f fe : ip_Fr D), run j f = some fe →
  ∀ (p : Program) (e : Env) (Rm : Room) (s : State) (m : MethodId) (args : Array Value) (below : List Frame) (meth : Method) (c : Code) (Q : State → Prop) (A : Nat → Prop), Rm.frames = fr → Rm.locals = lo → Rm.cells = ip_bc j → Rm.slots = ip_bs j →
  ip_Cx R ops p s m args meth c bs cls kd (ip_mx j) Dg cI cZ cJ A ra ro → ip_good R p l e Rm s m args below meth c Q (ip_mx j) base Dg cI cZ cJ A ra fe → ip_good R p l e Rm s m args below meth c Q (ip_mx j) base Dg cI cZ cJ A ra f
theorem ip_ent_mL {nL : Nat} {as : List (ip_V D)} {vs : List Value} (h : ip_all2 (ip_gR R base ra) as vs) (hc : ∀ v ∈ vs, v.category = 1) (hn : as.length ≤ nL) : ip_mL R base ra nL (as.map some ++ List.replicate (nL - as.length) none) ((lg_sl vs ++ List.replicate (nL - (lg_sl vs).length) Slot.unset).toArray) := by
  have hl := ip_all2_len h
  have hsl := ip_lg_sl vs hc
  refine ⟨by simp; omega, lv_args 0 vs, lv_entry vs (by omega), fun k v hv => ?_⟩
  by_cases hk : k < as.length
  · rw [List.getElem?_append_left (by simpa using hk), List.getElem?_map] at hv
    cases ha : as[k]? with
    | none => rw [ha] at hv; cases hv
    | some a =>
      rw [ha] at hv
      cases hv
      obtain ⟨w, h1, h2⟩ := ip_all2_at h k _ ha
      have h3 := ip_lv_args vs 0 k w hc h1
      rw [Nat.zero_add] at h3
      exact ⟨w, h3, hc w (List.mem_of_getElem? h1), h2⟩
  · rw [List.getElem?_append_right (by simpa using Nat.le_of_not_lt hk)] at hv
    have := List.mem_of_getElem? hv
    have := (List.mem_replicate.mp this).2
    cases this
theorem ip_mok_w {j cls kd : Nat} {y : MethodName} {bs : ByteArray} {ret : Option FieldType} {pcode fr lo size pm ps : Nat} (he : ip_ML[j]? = some (y, bs, ret, cls, kd, pcode, fr, lo, size, pm, ps)) :
    y.cls = ip_R cls ∧ y.cls ≠ "java/lang/invoke/MethodHandle" ∧ y.cls ≠ "java/lang/invoke/VarHandle" ∧ plainName y.cls = true ∧ Cond.initialized (ip_R cls) ∈ ip_G ∧ (kd = 0 ∨ kd = 1 ∨ kd = 2 → Cond.code y bs (ip_mx j) ret ∈ ip_G) ∧ (kd = 0 → Cond.instanceMethod y ∈ ip_G ∧ Cond.selects (ip_R cls) y y ∈ ip_G) ∧ (kd = 1 → Cond.static y ∈ ip_G) ∧ (kd = 2 → ret = none ∧ y.name = "<init>" ∧ Cond.instanceMethod y ∈ ip_G) := by
  have h := ip_ML_ok he
  unfold ip_mok at h
  dsimp only at h
  simp only [Bool.and_eq_true, decide_eq_true_eq] at h
  obtain ⟨h1, h2, h3, h4, h5, h6⟩ := h
  refine ⟨h1, h2, h3, h4, ip_in_mem h5, ?_, ?_, ?_, ?_⟩
  · rintro (rfl | rfl | rfl)
    · simp only [Bool.and_eq_true] at h6; exact ip_in_mem h6.1
    · simp only [Bool.and_eq_true] at h6; exact ip_in_mem h6.1
    · simp only [Bool.and_eq_true] at h6; exact ip_in_mem h6.1
  · rintro rfl
    simp only [Bool.and_eq_true] at h6
    exact ⟨ip_in_mem h6.2.1, ip_in_mem h6.2.2⟩
  · rintro rfl
    simp only [Bool.and_eq_true] at h6
    exact ip_in_mem h6.2
  · rintro rfl
    simp only [Bool.and_eq_true, decide_eq_true_eq] at h6
    exact ⟨h6.2.1, h6.2.2.1, ip_in_mem h6.2.2.2⟩
set_option maxHeartbeats 1000000 in
/-- a callee's contract, out of its run -/
theorem ip_met {run : Nat → ip_Fr D → Option (ip_Fr D)} (hO : ip_okO R ops) (IH : ip_RS R ops ro l base Dg cI cZ cJ ra run) {j cls kd pcode fr lo size pm ps sz : Nat} {y : MethodName} {bs : ByteArray} {ret : Option FieldType} (he : ip_ML[j]? = some (y, bs, ret, cls, kd, pcode, fr, lo, size, pm, ps)) (hkd : kd = 0 ∨ kd = 1 ∨ kd = 2)
    {as vs0 : List (ip_V D)} {hp : ip_Hp D} {fz : Bool} {pc' mc' ms' : Nat} {la' : List (Option (ip_V D))} {st' : List (ip_V D)} {hp' : ip_Hp D} {fz' : Bool} {x : ip_E} {ws : va_W} {vs : List Value}
    (hrun : run j (ip_ent j as hp fz) = some (pc', la', st', hp', mc', ms', fz')) (hx : ip_T j pc' = some x) (hbk : ip_back ops x st' = some vs0) (hlen : as.length ≤ ip_mx j) (hmc : mc' = ip_bc j) (hms : ms' ≤ ip_bs j)
    (hvs : ip_all2 (ip_gR R base ra) as vs) (hcat : ∀ v ∈ vs, v.category = 1) (hR : ip_hR R base ra cI cZ cJ hp ws) :
    Met l y (Cond.code y bs (ip_mx j) ret :: ip_G) { frames := fr, cells := ip_bc j, slots := ip_bs j, locals := lo } (ip_Pc R base ra cI cZ cJ Dg ro hp fz ws sz vs) (ip_Qc R base ra cI cZ cJ Dg (ip_bc j) hp' fz' ws sz vs0) (ip_bc j) (ip_bs j) (va_A ws sz) := by
  obtain ⟨w1, w2, w3, w4, w5, w6, w7, w8, w9⟩ := ip_mok_w he
  refine Met.ofW (cc := bs) (maxL := ip_mx j) (ret := ret) w4 rfl ?_
  intro p e s m args below meth c s₁ B hml hv
  obtain ⟨rfl, hsz, hP, hK, hD0, hro, hfz⟩ := hv
  have hts := atoms_spec (ws := Cond.code y bs (ip_mx j) ret :: ip_G) B.pre
  have hown : s.vm.findClass y.cls = some m.cls := findClass_of_methodNamed B.named
  have hlocks := B.notSynchronized
  have hin : meth.name = y.name := (name_of_methodNamed B.named B.method).1
  have hr := B.returns
  subst hsz
  have hD := hD0.self (sz := s.heap.size)
  have C : ip_Cx R ops p s m vs.toArray meth c bs cls kd (ip_mx j) Dg cI cZ cJ (va_A ws s.heap.size) ra ro :=
    ⟨hO, B.exec, B.bytes, hml, by rw [← w1]; exact hown, fun w hw => hts w (List.mem_cons_of_mem _ hw), hK, fun q h => Or.inr h, hro, fun h => by rw [hin]; exact (w9 h).2.1⟩
  have hok := ip_tab he hx
  obtain ⟨i, nx, a, b, c0⟩ := x
  unfold ip_ok at hok
  dsimp only at hok
  rw [Bool.and_eq_true, Bool.and_eq_true, decide_eq_true_eq] at hok
  obtain ⟨⟨hdec, hln⟩, hok⟩ := hok
  rw [lg_entry_eq]
  refine IH j y bs ret cls kd pcode fr lo size (pm, ps) he _ _ hrun p e _ s m vs.toArray below meth c _ (va_A ws s.heap.size) rfl rfl rfl rfl C ?_ _ [] s.heap [] (ip_ent_mL hvs hcat hlen) trivial ⟨⟨ws, hR, hP, hD⟩, va_S.rf, fun z => (hfz z : s.heap.size + 0 = base + hp.length)⟩
  intro ls st1 H locs h1 h2 h3
  refine W.widen (k := ip_bc j) (n := ip_bs j) (by dsimp only; omega) hms ?_
  obtain ⟨⟨ws', hR', hP', hD'⟩, hS', hfz'⟩ := h3
  have hfree : ∀ q ∈ locs, va_A ws s.heap.size q.base := hS'.2.2
  have hQ : ∀ (v : Option Value), ip_all2 (ip_gR R base ra) vs0 v.toList → ∀ t : State, t.heap = H → s.WarmedH t.vm → ip_Qc R base ra cI cZ cJ Dg (ip_bc j) hp' fz' ws s.heap.size vs0 vs.toArray s (.returned v) t := fun v hv t ht hW =>
    ⟨⟨v, ws', rfl, hv, hR', by rw [ht]; exact hP', hD', fun z => by rw [← hmc]; exact hfz' z⟩, hS'.F ht⟩
  have key : Nat.beq (ip_ln i) 0 = false → decode bs pc' = .ok (i, ip_ln i) := by
    intro q
    rw [q, Bool.false_or] at hln
    have e1 := Nat.eq_of_beq_eq_true hln
    rw [hdec, e1, Nat.add_sub_cancel_left]
  unfold ip_back at hbk
  dsimp only at hbk h2
  split at hbk
  · cases hbk
    obtain ⟨w, s2, rfl, ⟨u, rfl, hu⟩, h2'⟩ := ip_all2_cons h2
    cases ip_all2_nil h2'
    have hok : ret = some .int := of_decide_eq_true hok
    exact W.iret C.2.1 C.2.2.1 (hr.trans hok) (hQ (some (.int u)) ⟨⟨u, rfl, hu⟩, trivial⟩) hfree (key rfl) hlocks
  · rename_i d
    cases hb : ip_bit (ops.2.2.2 d) with
    | false => rw [hb] at hbk; cases hbk
    | true =>
      rw [hb] at hbk
      cases hbk
      obtain ⟨w, s2, rfl, ⟨u, rfl, hu⟩, h2'⟩ := ip_all2_cons h2
      cases ip_all2_nil h2'
      have hok : ret = some .boolean := of_decide_eq_true hok
      obtain ⟨bv, hb1, hb2⟩ := ip_bit_some hb
      have hbx := C.1.2.2.2 _ _ _ hb1 hu
      subst hbx
      exact W.zret C.2.1 C.2.2.1 (hr.trans hok) (ip_fitZ hb2).1 (hQ (some (.int u)) ⟨⟨u, rfl, hu⟩, trivial⟩) hfree (key rfl) hlocks
  · cases hbk
    obtain ⟨w, s2, rfl, hg, h2'⟩ := ip_all2_cons h2
    cases ip_all2_nil h2'
    cases hg
    dsimp only at hok
    split at hok
    · exact W.aret C.2.1 C.2.2.1 hr (Or.inl ⟨_, rfl⟩) (Or.inr ⟨_, rfl⟩) (hQ (some (.ref _)) ⟨rfl, trivial⟩) hfree (key rfl) hlocks
    · cases hok
  · cases hbk
    cases ip_all2_nil h2
    have hok : ret = none := of_decide_eq_true hok
    exact W.vret C.2.1 C.2.2.1 (hr.trans hok) (hQ none trivial) hfree (key rfl) hlocks
  · cases hbk
end Calls2
end
section
section Calls3
variable {D : Type} {R : D → Int32 → Prop} {ops : ip_O D} {p : Program} {l : Launch} {e : Env} {Rm : Room} {s : State} {m : MethodId} {args : Array Value} {below : List Frame} {meth : Method} {c : Code} {Q : State → Prop} {bs : ByteArray} {cls kd nL base : Nat} {Dg : va_G} {cI cZ cJ : ClassId} {A : Nat → Prop} {ra : Nat → Nat} {ro : List (List D)}
variable {pc mc ms : Nat} {la : List (Option (ip_V D))} {hp : ip_Hp D} {fz : Bool}
theorem ip_cont {H : Heap} {locs : List Loc} {ls : Array Slot} {st0 rest : List Value} {bc b9 : Nat} {Qa : State → Outcome → State → Prop} {free : Addr → Prop}
    (hr : va_Run p l e Rm s m args below meth c H locs mc ms bc b9 (F0 m pc ls st0) rest Qa free)
    (kk : ∀ (v : Option Value) (st₀ t : State) (H1 : Heap) (L : List Loc), st₀.heap = H → t.heap = H1 → (∀ q ∈ L, free q.base) → Qa st₀ (.returned v) t → W p l e Rm s m args below meth c H1 (locs ++ L) (mc + bc) (ms + b9) Q (F0 m (pc + 3) ls (v.toList ++ rest))) :
    W p l e Rm s m args below meth c H locs mc ms Q (F0 m pc ls st0) := by
  intro T hT X
  obtain ⟨v, st₀, t, T', L, h0, X', hL, e1, e2, hq, st⟩ := hr T hT X
  obtain ⟨t2, a1, b1⟩ := kk v st₀ t T'.heap L h0 e1.symm hL hq T' rfl X'
  exact ⟨t2, st t2 a1, b1⟩
theorem ip_split3 {P : List Value → List Value → Prop} {vpre s2 vAs : List Value} {w : Value} (h : vpre.reverse = w :: vAs) : vpre ++ s2 = vAs.reverse ++ w :: s2 := by
  have h1 : vpre = (w :: vAs).reverse := by rw [← h, List.reverse_reverse]
  rw [h1, List.reverse_cons, List.append_assoc]
  rfl
theorem ip_rcv0 {hp : ip_Hp D} {oc : Nat} {as : List (ip_V D)} (h : ip_rcv hp 0 oc as = true) : ∃ q0 as0 k fs, as = .inr (.inr (.inl (some q0))) :: as0 ∧ ip_nth hp q0 = some (k, fs) ∧ k = oc ∧ k < 6 := by
  have h : (match (generalizing := false) as with
    | .inr (.inr (.inl (some q))) :: _ => (match ip_nth hp q with
      | some (k, _) => Nat.beq k oc && Nat.ble (k + 1) 6
      | none => false)
    | _ => false) = true := h
  split at h
  · split at h
    · rename_i k fs hq
      simp only [Bool.and_eq_true, Nat.ble_eq, Nat.beq_eq] at h
      exact ⟨_, _, k, fs, rfl, hq, h.1, h.2⟩
    · cases h
  · cases h
theorem ip_rcv2 {hp : ip_Hp D} {oc : Nat} {as : List (ip_V D)} (h : ip_rcv hp 2 oc as = true) : ∃ q0 as0, as = .inr (.inr (.inl (some q0))) :: as0 := by
  have h : (match (generalizing := false) as with
    | .inr (.inr (.inl (some _))) :: _ => true
    | _ => false) = true := h
  split at h
  · exact ⟨_, _, rfl⟩
  · cases h
set_option maxHeartbeats 1000000 in
theorem ip_cal_ok (C : ip_Cx R ops p s m args meth c bs cls kd nL Dg cI cZ cJ A ra ro) {run : Nat → ip_Fr D → Option (ip_Fr D)} (IH : ip_RS R ops ro l base Dg cI cZ cJ ra run) {j jc q b cls' kd' pcode' fr' lo' size' pm' ps' : Nat} {y' : MethodName} {bs' : ByteArray} {ret' : Option FieldType} {i : Instr} {pre st' : List (ip_V D)} {f2 : ip_Fr D}
    (he' : ip_ML[jc]? = some (y', bs', ret', cls', kd', pcode', fr', lo', size', pm', ps')) (hRc : Rm.cells = ip_bc j) (hRs : Rm.slots = ip_bs j) (hd : decode bs pc = .ok (i, 3))
    (hi : (i = .invokevirtual q ∧ kd' = 0 ∧ pre.length = b + 1) ∨ (i = .invokestatic q ∧ kd' = 1 ∧ pre.length = b) ∨ (i = .invokespecial q ∧ kd' = 2 ∧ pre.length = b + 1)) (hlk : Cond.methodLink (ip_R cls) q y' ∈ ip_G)
    (hfr : fr' + 1 ≤ Rm.frames) (hlo : 8 + (ip_mx jc + 11) + lo' ≤ Rm.locals) (hb : (parseMethodDescriptor y'.desc).map (fun d => d.parameters.length) = some b) (hpre : ∀ v ∈ pre, ip_one v = true) (hne : ip_ne hp mc = true) (hcat : ip_cat st' ≤ 8)
    (hcal : ip_cal ops run j jc pre.reverse (pc + 3, la, st', hp, mc, ms, fz) = some f2) (hk : ip_good R p l e Rm s m args below meth c Q nL base Dg cI cZ cJ A ra f2) : ip_good R p l e Rm s m args below meth c Q nL base Dg cI cZ cJ A ra (pc, la, pre ++ st', hp, mc, ms, fz) := by
  unfold ip_cal at hcal
  dsimp only at hcal
  split at hcal
  · cases hcal
  rename_i pc' la' ste hp' mc' ms' fz' h1
  split at hcal
  · cases hcal
  rename_i x h2
  split at hcal
  · cases hcal
  rename_i vs h3
  cases hcond : (ip_rcv hp (ip_kd jc) (ip_oc jc) pre.reverse && ((!fz' || fz) && (Nat.ble pre.reverse.length (ip_mx jc) && (Nat.beq mc' (ip_bc jc) && (Nat.ble ms' (ip_bs jc) && (Nat.ble (mc + ip_bc jc) (ip_bc j) && Nat.ble (ms + ip_bs jc) (ip_bs j))))))) with
  | false => rw [hcond] at hcal; cases hcal
  | true =>
  rw [hcond] at hcal
  cases hcal
  simp only [Bool.and_eq_true, Nat.ble_eq, Nat.beq_eq] at hcond
  obtain ⟨hrcv, hfzz, hlen, hmc, hms, hmc2, hms2⟩ := hcond
  have hkd : kd' = 0 ∨ kd' = 1 ∨ kd' = 2 := by
    rcases hi with ⟨-, h, -⟩ | ⟨-, h, -⟩ | ⟨-, h, -⟩
    · exact Or.inl h
    · exact Or.inr (Or.inl h)
    · exact Or.inr (Or.inr h)
  obtain ⟨w1, w2, w3, w4, w5, w6, w7, w8, w9⟩ := ip_mok_w he'
  obtain ⟨hoc, hkdc⟩ := ip_ock he'
  dsimp only at hoc hkdc
  intro ls s1 H locs g1 g2 g3
  obtain ⟨vpre, s2, rfl, ga, gb⟩ := ip_all2_app pre st' s1 g2
  refine ip_W_sz (fun hsz => ?_)
  have hsize : fz = true → H.size = base + hp.length := fun z => ip_size g3 z hne hsz
  obtain ⟨⟨ws, hR, hP, hD⟩, hS, hfz⟩ := g3
  have hfz : fz = true → s.heap.size + mc = base + hp.length := hfz
  have hvs := ip_all2_rev ga
  have hvc : ∀ v ∈ vpre.reverse, v.category = 1 := ip_all2_cat hvs (fun v hv => hpre v (List.mem_reverse.mp hv))
  have M := ip_met (sz := H.size) C.1 IH he' hkd h1 h2 h3 hlen hmc hms hvs hvc hR
  have hFc : ∀ q, va_A ws H.size q → A q := by
    intro q h
    rcases h with ⟨k, E, h⟩ | h
    · exact hD.2 k (q, E) h
    · exact C.2.2.2.2.2.2.2.1 q (Nat.le_trans hS.1 h)
  have hPre : ∀ U : State, U.heap = H → s.WarmedH U.vm → ip_Pc R base ra cI cZ cJ Dg ro hp fz ws H.size vpre.reverse vpre.reverse.toArray U := fun U hU hW =>
    ⟨rfl, by rw [hU], by rw [hU]; exact hP, va_K.moved hW.alike C.2.2.2.2.2.2.1, hD.weaken (fun _ _ _ _ => trivial), ip_ro_to R ra ro C.2.2.2.2.2.2.2.2.1 hS hFc hW hU, fun z => by rw [hU]; exact hsize z⟩
  have hls : ls.size = nL := by obtain ⟨-, lv, h4, -⟩ := g1; exact h4.1
  have kk : ∀ (v : Option Value) (st₀ t : State) (H1 : Heap) (L : List Loc), st₀.heap = H → t.heap = H1 → (∀ q ∈ L, va_A ws H.size q.base) → ip_Qc R base ra cI cZ cJ Dg (ip_bc jc) hp' fz' ws H.size vs vpre.reverse.toArray st₀ (.returned v) t →
      W p l e Rm s m args below meth c H1 (locs ++ L) (mc + ip_bc jc) (ms + ip_bs jc) Q (F0 m (pc + 3) ls (v.toList ++ s2)) := by
    intro v st₀ t H1 L q0 q1 q2 q3
    obtain ⟨⟨v', ws', hv', hvv, hR', hP', hD', hf'⟩, hF⟩ := q3
    cases hv'
    subst q1
    refine hk ls (v.toList ++ s2) t.heap (locs ++ L) g1 (ip_all2_mk hvv gb) ⟨⟨ws', hR', hP', hD'.weaken (fun _ _ _ h => hFc _ h)⟩, ⟨?_, ?_, ?_⟩, ?_⟩
    · exact Nat.le_trans hS.1 (by rw [← q0]; exact hF.1)
    · intro q a1 a2
      rw [hF.2 q (by rw [q0]; exact Nat.lt_of_lt_of_le a1 hS.1) (fun z => a2 (hFc q z)), q0]
      exact hS.2.1 q a1 a2
    · intro q hq
      rcases List.mem_append.mp hq with h | h
      · exact hS.2.2 q h
      · exact hFc _ (q2 q h)
    · intro z
      have z : fz' = true := z
      have hz : fz = true := by
        rw [z] at hfzz
        simpa using hfzz
      have e1 := hf' z
      have e2 := hsize hz
      have e3 := hfz hz
      show s.heap.size + (mc + ip_bc jc) = base + hp'.length
      omega
  have hroom : ∀ st0 : List Value, 2 * (F0 m pc ls st0).monitorRoom + (s2.map fun v => v.category).sum ≤ 8 := fun st0 => lv_room (by rw [ip_cat_eq gb]; exact hcat)
  have hcB : CallB Rm s args (ip_R cls) q y' bs' (ip_mx jc) ret' (Cond.code y' bs' (ip_mx jc) ret' :: ip_G) { frames := fr', cells := ip_bc jc, slots := ip_bs jc, locals := lo' } (ip_bc jc) (ip_bs jc) b :=
    callB_of b C.2.2.2.2.2.1 (ip_GG (w6 hkd)) rfl rfl rfl (by rw [w1]; exact C.2.2.2.2.2.1 _ w5) (C.2.2.2.2.2.1 _ hlk) ⟨w2, w3, hb⟩ ⟨hfr, hlo⟩
  have hroom2 : mc + ip_bc jc ≤ Rm.cells ∧ ms + ip_bs jc ≤ Rm.slots := ⟨by rw [hRc]; exact hmc2, by rw [hRs]; exact hms2⟩
  rcases hi with ⟨rfl, rfl, hn⟩ | ⟨rfl, rfl, hn⟩ | ⟨rfl, rfl, hn⟩
  · rw [hkdc, hoc] at hrcv
    obtain ⟨q0, as0, k, fs, hrev, hq, hk1, hk2⟩ := ip_rcv0 hrcv
    rw [hrev] at hvs
    obtain ⟨w, vAs, hvr, hg, hvs2⟩ := ip_all2_cons hvs
    cases hg
    rw [ip_nth_eq] at hq
    obtain ⟨E, hE, hcr⟩ := hR.2 q0 _ hq
    obtain ⟨fv, rfl, -⟩ := ip_cR_obj hk2 hcr
    have hrec := va_recv C.2.2.2.2.2.2.1 hP (ip_vw hk2) hE
    rw [hvr] at M hPre kk
    have hnn : vAs.length = b := by
      have := congrArg List.length hvr
      rw [List.length_reverse, ← ip_all2_len ga, hn, List.length_cons] at this
      omega
    refine ip_cont (va_runV (As := vAs) (rest := s2) (b := base + q0) (C := ip_R k) (nL := nL) ⟨C.2.1, C.2.2.1, C.2.2.2.1, C.2.2.2.2.1, C.2.2.2.2.2.1⟩ M ⟨hcB, C.2.2.2.2.2.1 _ (w7 rfl).1, by rw [hk1]; exact C.2.2.2.2.2.1 _ (w7 rfl).2⟩ ⟨ip_Pc_blind R base ra cI cZ cJ Dg ro, hrec, hPre⟩ rfl hnn hls (ip_split3 (P := fun _ _ => True) hvr) (hroom _) hd hroom2) kk
  · have hnn : vpre.reverse.length = b := by rw [List.length_reverse, ← ip_all2_len ga, hn]
    refine ip_cont (va_runS (As := vpre.reverse) (rest := s2) (nL := nL) ⟨C.2.1, C.2.2.1, C.2.2.2.1, C.2.2.2.2.1, C.2.2.2.2.2.1⟩ M ⟨hcB, C.2.2.2.2.2.1 _ (w8 rfl)⟩ ⟨ip_Pc_blind R base ra cI cZ cJ Dg ro, hPre⟩ rfl hnn hls (by rw [List.reverse_reverse]) (hroom _) hd hroom2) kk
  · rw [hkdc] at hrcv
    obtain ⟨q0, as0, hrev⟩ := ip_rcv2 hrcv
    obtain ⟨hret, hinit, hinst⟩ := w9 rfl
    subst hret
    rw [hrev] at hvs
    obtain ⟨w, vAs, hvr, hg, hvs2⟩ := ip_all2_cons hvs
    cases hg
    rw [hvr] at M hPre kk
    have hnn : vAs.length = b := by
      have := congrArg List.length hvr
      rw [List.length_reverse, ← ip_all2_len ga, hn, List.length_cons] at this
      omega
    refine ip_cont (va_runI (As := vAs) (rest := s2) (b := base + q0) (nL := nL) ⟨C.2.1, C.2.2.1, C.2.2.2.1, C.2.2.2.2.1, C.2.2.2.2.2.1⟩ M ⟨hcB, hinit, C.2.2.2.2.2.1 _ hinst⟩ ⟨ip_Pc_blind R base ra cI cZ cJ Dg ro, hPre⟩ rfl hnn hls (ip_split3 (P := fun _ _ => True) hvr) (hroom _) hd hroom2) kk
theorem ip_inv_ok {a b nx : Nat} {st : List (ip_V D)} {jc : Nat} {as : List (ip_V D)} {f' : ip_Fr D} (h : ip_inv a b nx (pc, la, st, hp, mc, ms, fz) = some (.inr (jc, as, f'))) : ∃ pre st', st = pre ++ st' ∧ as = pre.reverse ∧ (∀ v ∈ pre, ip_one v = true) ∧ ip_ne hp mc = true ∧ ip_cat st' ≤ 8 ∧ jc = a ∧ f' = (nx, la, st', hp, mc, ms, fz) ∧ pre.length = b := by
  unfold ip_inv at h
  dsimp only at h
  split at h
  · rename_i as1 st1 h1
    cases hb : (ip_ne hp mc && Nat.ble (ip_cat st1) 8) with
    | false => rw [hb] at h; cases h
    | true =>
      rw [hb] at h
      cases h
      simp only [Bool.and_eq_true, Nat.ble_eq] at hb
      obtain ⟨pre, h2, h3, h4, h5⟩ := ip_arg_ok _ _ _ h1
      exact ⟨pre, _, h2, by rw [h4, List.append_nil], h5, hb.1, hb.2, rfl, rfl, h3⟩
  · cases h
theorem ip_no_bin {o nx : Nat} {f : ip_Fr D} {z : Nat × List (ip_V D) × ip_Fr D} (h : ip_bin ops o nx f = some (.inr z)) : False := by
  unfold ip_bin at h
  split at h
  · split at h <;> cases h
  · cases h
theorem ip_no_br {t : Option Bool} {nx a : Nat} {st : List (ip_V D)} {z : Nat × List (ip_V D) × ip_Fr D} (h : ip_br t nx a la st hp mc ms fz = some (.inr z)) : False := by
  unfold ip_br at h
  split at h <;> cases h
theorem ip_no_ald {k nx : Nat} {f : ip_Fr D} {z : Nat × List (ip_V D) × ip_Fr D} (h : ip_ald ops k nx f = some (.inr z)) : False := by
  unfold ip_ald at h
  split at h
  · split at h
    · rename_i k' cs h1 h2
      cases hb : Nat.beq k k' <;> rw [hb] at h
      · cases h
      · dsimp only [cond_true] at h
        split at h <;> cases h
    · cases h
  · cases h
theorem ip_no_ast {k nx : Nat} {v : ip_V D} {f : ip_Fr D} {z : Nat × List (ip_V D) × ip_Fr D} (h : ip_ast ops k nx v f = some (.inr z)) : False := by
  unfold ip_ast at h
  split at h
  · split at h
    · rename_i k' cs h1 h2
      cases hb : Nat.beq k k' <;> rw [hb] at h
      · cases h
      · dsimp only [cond_true] at h
        split at h <;> cases h
    · cases h
  · cases h
theorem ip_no_mka {rc rs k nx : Nat} {v : ip_V D} {f : ip_Fr D} {z : Nat × List (ip_V D) × ip_Fr D} (h : ip_mka ops rc rs k v nx f = some (.inr z)) : False := by
  unfold ip_mka at h
  split at h
  · split at h
    · rename_i N h1
      revert h
      cases (ip_ne _ _ && (Nat.ble (_ + 1) rc && (Nat.ble (_ + N) rs && Nat.ble N 1000))) <;> intro h <;> cases h
    · cases h
  · cases h
theorem ip_no_bif {b : Bool} {f : ip_Fr D} {z : Nat × List (ip_V D) × ip_Fr D} (h : (bif b then some (Sum.inl f) else none) = some (Sum.inr z)) : False := by
  cases b <;> cases h
set_option maxHeartbeats 4000000 in
theorem ip_step_inr {x : ip_E} {st : List (ip_V D)} {rc rs jc : Nat} {as : List (ip_V D)} {f' : ip_Fr D} (h : ip_step ops ro rc rs x (pc, la, st, hp, mc, ms, fz) = some (.inr (jc, as, f'))) :
    ∃ (q : Nat) (pre st' : List (ip_V D)), st = pre ++ st' ∧ as = pre.reverse ∧ (∀ v ∈ pre, ip_one v = true) ∧ ip_ne hp mc = true ∧ ip_cat st' ≤ 8 ∧ jc = x.2.2.1 ∧ f' = (x.2.1, la, st', hp, mc, ms, fz) ∧ ((x.1 = .invokevirtual q ∧ pre.length = x.2.2.2.1 + 1) ∨ (x.1 = .invokestatic q ∧ ¬ x.2.2.2.2 = 4 ∧ pre.length = x.2.2.2.1) ∨ (x.1 = .invokespecial q ∧ x.2.2.2.2 = 2 ∧ pre.length = x.2.2.2.1 + 1)) := by
  obtain ⟨i, nx, a, b, c0⟩ := x
  unfold ip_step at h
  dsimp only at h ⊢
  cases i with
  | invokevirtual q =>
    obtain ⟨pre, st', h1, h2, h3, h4, h5, h6, h7, h8⟩ := ip_inv_ok h
    exact ⟨q, pre, st', h1, h2, h3, h4, h5, h6, h7, Or.inl ⟨rfl, h8⟩⟩
  | invokestatic q =>
    unfold ip_sIs at h
    dsimp only at h
    split at h
    · split at h
      · revert h
        cases (Nat.ble (ip_cat _) 8 && (Nat.ble mc rc && Nat.ble ms rs)) <;> intro h
        · cases h
        · dsimp only [cond_true] at h
          split at h <;> cases h
      · cases h
    · rename_i hn4
      obtain ⟨pre, st', h1, h2, h3, h4, h5, h6, h7, h8⟩ := ip_inv_ok h
      exact ⟨q, pre, st', h1, h2, h3, h4, h5, h6, h7, Or.inr (Or.inl ⟨rfl, hn4, h8⟩)⟩
  | invokespecial q =>
    unfold ip_sIp at h
    dsimp only at h
    split at h
    · obtain ⟨pre, st', h1, h2, h3, h4, h5, h6, h7, h8⟩ := ip_inv_ok h
      exact ⟨q, pre, st', h1, h2, h3, h4, h5, h6, h7, Or.inr (Or.inr ⟨rfl, rfl, h8⟩)⟩
    · split at h
      · exact (ip_no_bif h).elim
      · cases h
    · cases h
  | newarray at0 =>
    cases at0 with
    | int => exact (ip_no_mka h).elim
    | boolean => exact (ip_no_mka h).elim
    | long => exact (ip_no_mka h).elim
    | _ => cases h
  | new q =>
    unfold ip_sNew at h
    dsimp only at h
    split at h
    · exact (ip_no_bif h).elim
    · cases h
  | iadd => exact (ip_no_bin h).elim
  | isub => exact (ip_no_bin h).elim
  | imul => exact (ip_no_bin h).elim
  | idiv => exact (ip_no_bin h).elim
  | irem => exact (ip_no_bin h).elim
  | iand => exact (ip_no_bin h).elim
  | ishr => exact (ip_no_bin h).elim
  | iushr => exact (ip_no_bin h).elim
  | baload => exact (ip_no_ald h).elim
  | laload => exact (ip_no_ald h).elim
  | iaload =>
    unfold ip_sIal at h
    dsimp only at h
    split at h
    · split at h
      · split at h <;> cases h
      · cases h
    · exact (ip_no_ald h).elim
  | iastore =>
    unfold ip_sIas at h
    dsimp only at h
    split at h
    · exact (ip_no_ast h).elim
    · cases h
  | lastore =>
    unfold ip_sLas at h
    dsimp only at h
    split at h
    · exact (ip_no_ast h).elim
    · cases h
  | bastore =>
    unfold ip_sBas at h
    dsimp only at h
    split at h
    · rename_i d r
      cases hb : ip_bit (ops.2.2.2 d) <;> rw [hb] at h
      · cases h
      · exact (ip_no_ast h).elim
    · cases h
  | ifCond k off =>
    unfold ip_sIf at h
    dsimp only at h
    split at h
    · exact (ip_no_br h).elim
    · cases h
  | if_icmp k off =>
    unfold ip_sIc at h
    dsimp only at h
    split at h
    · exact (ip_no_br h).elim
    · cases h
  | dup =>
    unfold ip_sDup at h
    dsimp only at h
    split at h
    · exact (ip_no_bif h).elim
    · cases h
  | dup2 =>
    unfold ip_sDu2 at h
    dsimp only at h
    split at h
    · exact (ip_no_bif h).elim
    · cases h
  | pop =>
    unfold ip_sPop at h
    dsimp only at h
    split at h
    · exact (ip_no_bif h).elim
    · cases h
  | getfield q =>
    unfold ip_sGf at h
    dsimp only at h
    split at h
    · split at h
      · rename_i k' fs h1
        cases hb : Nat.beq k' a <;> rw [hb] at h
        · cases h
        · dsimp only [cond_true] at h
          split at h <;> cases h
      · cases h
    · cases h
  | putfield q =>
    unfold ip_sPf at h
    dsimp only at h
    split at h
    · split at h
      · rename_i k' fs h1
        cases hb : Nat.beq k' a <;> rw [hb] at h
        · cases h
        · dsimp only [cond_true] at h
          split at h
          · split at h
            · cases h
            · exact (ip_no_bif h).elim
            · cases h
            · cases h
          · cases h
      · cases h
    · cases h
  | iconst v =>
    unfold ip_sK at h
    dsimp only at h
    cases h
  | bipush v =>
    unfold ip_sK at h
    dsimp only at h
    cases h
  | sipush v =>
    unfold ip_sK at h
    dsimp only at h
    cases h
  | iload k =>
    unfold ip_sLd at h
    dsimp only at h
    repeat' split at h
    all_goals cases h
  | iload_n k =>
    unfold ip_sLd at h
    dsimp only at h
    repeat' split at h
    all_goals cases h
  | aload k =>
    unfold ip_sLa at h
    dsimp only at h
    repeat' split at h
    all_goals cases h
  | aload_n k =>
    unfold ip_sLa at h
    dsimp only at h
    repeat' split at h
    all_goals cases h
  | istore k =>
    unfold ip_sSt at h
    dsimp only at h
    repeat' split at h
    all_goals cases h
  | istore_n k =>
    unfold ip_sSt at h
    dsimp only at h
    repeat' split at h
    all_goals cases h
  | astore k =>
    unfold ip_sSa at h
    dsimp only at h
    repeat' split at h
    all_goals cases h
  | astore_n k =>
    unfold ip_sSa at h
    dsimp only at h
    repeat' split at h
    all_goals cases h
  | iinc k v =>
    unfold ip_sInc at h
    dsimp only at h
    repeat' split at h
    all_goals cases h
  | ineg =>
    unfold ip_sNeg at h
    dsimp only at h
    repeat' split at h
    all_goals cases h
  | i2l =>
    unfold ip_sI2l at h
    dsimp only at h
    repeat' split at h
    all_goals cases h
  | lcmp =>
    unfold ip_sLc at h
    dsimp only at h
    repeat' split at h
    all_goals cases h
  | goto off =>
    unfold ip_sGo at h
    dsimp only at h
    cases h
  | tableswitch d lo hi offs =>
    unfold ip_sTs at h
    dsimp only at h
    repeat' split at h
    all_goals cases h
  | lookupswitch d ps =>
    unfold ip_sLs at h
    dsimp only at h
    repeat' split at h
    all_goals cases h
  | getstatic q =>
    unfold ip_sGs at h
    dsimp only at h
    cases h
  | arraylength =>
    unfold ip_sLen at h
    dsimp only at h
    repeat' split at h
    all_goals cases h
  | _ => cases h
end Calls3
end
section
section Thr
variable {p : Program} {l : Launch} {e : Env} {R : Room} {s : State} {m : MethodId} {args : Array Value} {below : List Frame} {meth : Method} {c : Code} {H : Heap} {locs : List Loc} {cells slots : Nat} {Q : State → Prop} {ls : Array Slot} {rest : List Value} {Qc : Array Value → State → Outcome → State → Prop} {XC : String → State → State → Prop} {free : Addr → Prop}
/-- 'throw x' of an object that was made before (pasted of kit/laws) -/
theorem vx_athrow {cc : ByteArray} {pc : Nat} (hexec : p.tables.exec = Jvm.exec) (hb : c.code = cc) {q : Addr} (hdg : decode cc pc = .ok (.athrow, 1)) (k : vx_W p l e R s m args below meth c H locs cells slots Q (F0 m pc ls rest) q) : W p l e R s m args below meth c H locs cells slots Q (F0 m pc ls (.ref q :: rest)) := by
  intro T hT X
  obtain ⟨t, st, hq⟩ := k T hT X
  refine ⟨t, ?_, hq⟩
  have hdg' : decode c.code pc = .ok (.athrow, 1) := by rw [hb]; exact hdg
  jvm_step X.here [X.here.top, hexec, hdg', athrow.wp_sem]
  exact st
theorem ip_thr1 {cc : ByteArray} {pc is sa : Nat} {text : String} (hexec : p.tables.exec = Jvm.exec) (hb : c.code = cc) (hl : l.stackTraces = false) (hown : s.vm.findClass RX4 = some m.cls) (hk : (Cond.classLink RX4 127 ip_NSE).before args s = true) (hini : (Cond.initialized ip_NSE).before args s = true)
    (hstr : vk_R RX4 is text sa s) (h : ∀ a ∈ ip_own RX4 131 ip_NSE, a.before args s = true) (hsize : ls.size = c.maxLocals)
    (d0 : decode cc pc = .ok (.new 127, 3)) (d3 : decode cc (pc + 3) = .ok (.dup, 1)) (d4 : decode cc (pc + 4) = .ok (.ldc is, 2)) (d6 : decode cc (pc + 6) = .ok (.invokespecial 131, 3)) (d9 : decode cc (pc + 9) = .ok (.athrow, 1))
    (hout : ∀ x ∈ c.exceptionTable.toList, covers x (pc + 9) = false) (hfr : 5 < R.frames) (hlo : 90 ≤ R.locals) (hcells : 1 ≤ R.cells) (hslots : 6 ≤ R.slots) (hlocks : meth.locks = false)
    (hx : ∀ t : State, s.vm.Alike t.vm → s.heap.size ≤ t.heap.size → (∀ q : Nat, q < s.heap.size → t.heap[q]? = s.heap[q]?) → XC ip_NSE s t) (hfree : ∀ q : Nat, s.heap.size ≤ q → free q) :
    W p l e R s m args below meth c s.heap [] 0 0 (vx_MQ below Qc XC args s 1 6 free) (F0 m pc ls []) := by
  have hins : (Cond.instantiable ip_NSE 6).before args s = true := h _ (by simp [ip_own])
  obtain ⟨cX, kX, hfX, hkX, -⟩ := Cond.instantiable_spec hins
  refine W.newcK hexec hb hown hk hins hini rfl d0 (by omega) (by omega) hfX rfl fun H1 kC hkC e1 z1 o1 => ?_
  cases Option.some.inj (hkX.symm.trans hkC)
  refine lv_dup hexec hb d3 rfl ?_
  refine va_ldcS hexec hb hown hstr d4 ?_
  intro T hT X
  have htr : e.platform.stackTraces = false := (show e.platform.stackTraces = l.stackTraces by rw [X.admits.platform]).trans hl
  obtain ⟨V, ce, L, X', hL, hlt, hcl, hvm, st⟩ := ip_ctorNSE X hexec htr rfl hown h (fun x hx => nomatch hx) hfX hkX (a := s.heap.size) (by rw [hT]; exact e1) (Nat.le_refl _) (msg := .ref sa) rfl
    (g := F0 m (pc + 6) ls [.ref sa, .ref s.heap.size, .ref s.heap.size]) rfl hsize (rest := []) rfl (by rw [hb]; exact d6) hfr (by
      have hr := lv_room (m := m) (pc := pc + 6) (ls := ls) (rest := [.ref sa, .ref s.heap.size, .ref s.heap.size]) (st := [.ref s.heap.size]) (Nat.le_of_ble_eq_true rfl)
      have h1 : (([Value.ref s.heap.size] : List Value).map fun v => v.category).sum = 1 := rfl
      rw [h1] at hr ⊢
      omega)
  have hs9 : s.sameButNew ((V.setCell s.heap.size ce).setVm s.vm) ([] ++ L) (0 + 1) (0 + 6) := X'.same
  rw [List.nil_append] at hs9
  obtain ⟨f1, f2⟩ := vx_frame (U := V.setCell s.heap.size ce) hs9
  have K2 : W p l e R s m args below meth c (V.setCell s.heap.size ce).heap ([] ++ L) (0 + 1) (0 + 6) (vx_MQ below Qc XC args s 1 6 free) (F0 m (pc + 9) ls [.ref s.heap.size]) := by
    refine vx_athrow hexec hb d9 (vx_out hout hlocks (ce := ce) (E := ip_NSE) ?_ hvm ?_ ?_ ?_ (Nat.le_refl _) (Nat.le_refl _))
    · simp [State.setCell, hlt]
    · rw [hcl]; exact hfX
    · intro t ht hal
      refine hx t hal (by rw [ht]; exact f1) (fun q hq => ?_)
      rw [ht]
      exact f2 q hq (fun z hz => by rw [hL z hz]; exact Nat.ne_of_gt hq)
    · intro z hz
      rw [List.nil_append] at hz
      rw [hL z hz]
      exact hfree _ (Nat.le_refl _)
  obtain ⟨t, a1, b1⟩ := K2 _ rfl X'
  exact ⟨t, st t a1, b1⟩
theorem ip_same_drop {s t : State} {L : List Loc} {k n : Nat} (h : s.sameButNew t L k n) (hL : ∀ z ∈ L, s.heap.size ≤ z.base) : s.sameButNew t [] k n := by
  obtain ⟨h1, h2, h3, h4, h5, h6⟩ := h
  refine ⟨h1, h2, h3, h4, h5, fun a c hc => ?_⟩
  obtain ⟨c', g1, g2, g3, g4⟩ := h6 a c hc
  refine ⟨c', g1, g2, g3, fun i _ => g4 i (fun hm => ?_)⟩
  have := hL _ hm
  have h9 : a < s.heap.size := (Array.getElem?_eq_some_iff.mp hc).1
  exact absurd h9 (Nat.not_lt.mpr this)
theorem ip_throw {cc : ByteArray} {pc is mc ms : Nat} {A : Nat → Prop} (hexec : p.tables.exec = Jvm.exec) (hb : c.code = cc) (hl : l.stackTraces = false) (hown : s.vm.findClass RX4 = some m.cls) (hts : ∀ w ∈ ip_G, w.before args s = true) (hxs : ip_xs A s) (hS : va_S A s.heap H locs) (hsize : ls.size = c.maxLocals)
    (hk0 : Cond.classLink RX4 127 ip_NSE ∈ ip_G) (hi0 : Cond.initialized ip_NSE ∈ ip_G) (his : is = 129 ∨ is = 171 ∨ is = 176)
    (d0 : decode cc pc = .ok (.new 127, 3)) (d3 : decode cc (pc + 3) = .ok (.dup, 1)) (d4 : decode cc (pc + 4) = .ok (.ldc is, 2)) (d6 : decode cc (pc + 6) = .ok (.invokespecial 131, 3)) (d9 : decode cc (pc + 9) = .ok (.athrow, 1))
    (hout : ∀ x ∈ c.exceptionTable.toList, covers x (pc + 9) = false) (hfr : 5 < R.frames) (hlo : 90 ≤ R.locals) (hcells : cells + 1 ≤ R.cells) (hslots : slots + 6 ≤ R.slots) (hlocks : meth.locks = false)
    (hx : ∀ t : State, s.vm.Alike t.vm → H.size ≤ t.heap.size → (∀ q : Nat, q < H.size → t.heap[q]? = H[q]?) → XC ip_NSE s t) (hf : ∀ z ∈ locs, free z.base) (hc : cells + 1 ≤ mc) (hs : slots + 6 ≤ ms) :
    W p l e R s m args below meth c H locs cells slots (vx_MQ below Qc XC args s mc ms free) (F0 m pc ls []) := by
  intro T hT X
  have Y := vx_rebase X (R' := { frames := R.frames, locals := R.locals, cells := 1, slots := 6 }) (Nat.le_refl _) (Nat.le_refl _) hcells hslots
  obtain ⟨s', hA⟩ : ∃ z, z = (T.setVm s.vm).setFrames (.invoking m args :: below) := ⟨_, rfl⟩
  rw [← hA] at Y
  have hvm : s'.vm = s.vm := by rw [hA]; rfl
  have hhp : s'.heap = H := by rw [hA]; exact hT
  have hW0 : s.WarmedH s'.vm := by rw [hvm]; exact State.WarmedH.refl s
  obtain ⟨x1, x2, x3, x4⟩ := hxs
  have hU' : vx_Zq Bundle.tN "UNASSIGNED_STACK" Bundle.steD A s' s'.heap := by rw [hhp]; exact vx_Zq.moved hW0.alike (x1.kept hS.2.1)
  have hN' : vx_Zq Bundle.tN "SUPPRESSED_SENTINEL" Bundle.listD A s' s'.heap := by rw [hhp]; exact vx_Zq.moved hW0.alike (x2.kept hS.2.1)
  have hat : ∀ w ∈ ip_atS, w.before args s = true := vx_hat (B := ip_B) (fun w hw => hts w (ip_at_in w hw)) (fun w hw => hw) (fun w hw => va_Nw.use (by
    have := List.all_eq_true.mp ip_B_soft w hw
    unfold ip_soft at this
    split at this
    · rfl
    · rfl
    · cases this) (x3 w hw))
  have hat' : ∀ w ∈ ip_atS, w.before args s' = true := fun w hw => vx_ot_at hW0 hvm.symm (ip_at_ot w (List.mem_cons_of_mem _ (List.mem_cons_of_mem _ hw))) (hat w hw)
  have hk' : (Cond.classLink RX4 127 ip_NSE).before args s' = true := vx_ot_at hW0 hvm.symm (ip_at_ot _ List.mem_cons_self) (hts _ hk0)
  have hini' : (Cond.initialized ip_NSE).before args s' = true := vx_ot_at hW0 hvm.symm (ip_at_ot _ (List.mem_cons_of_mem _ List.mem_cons_self)) (hts _ hi0)
  have h : ∀ w ∈ ip_own RX4 131 ip_NSE, w.before args s' = true := vx_own hat' (vx_isRefq hU'.1) (vx_isRefq hN'.1) hU'.2.word hN'.2.word
  have hown' : s'.vm.findClass RX4 = some m.cls := by rw [hvm]; exact hown
  obtain ⟨sa, hsa⟩ := x4 is his
  have hK := ip_thr1 (Qc := fun _ _ _ _ => False) (XC := fun E st t => E = ip_NSE ∧ st.vm.Alike t.vm ∧ st.heap.size ≤ t.heap.size ∧ ∀ q : Nat, q < st.heap.size → t.heap[q]? = st.heap[q]?) (free := fun q => s'.heap.size ≤ q) (R := { frames := R.frames, locals := R.locals, cells := 1, slots := 6 }) (p := p) (e := e) (below := below) (meth := meth) hexec hb hl hown' hk' hini' (vk_R.warm hW0 hsa) h hsize d0 d3 d4 d6 d9 hout hfr hlo (Nat.le_refl _) (Nat.le_refl _) hlocks (fun t a1 a2 a3 => ⟨rfl, a1, a2, a3⟩) (fun q hq => hq)
  obtain ⟨U, hsteps, o, hrun, hend, hq⟩ := hK T (by rw [hhp]; exact hT) Y
  refine ⟨U, hsteps, o, hrun, hend, ?_⟩
  rcases hq with ⟨hq, -⟩ | ⟨q, rfl, E, ce, L, ⟨rfl, y1, y2, y3⟩, y4, y5, y6, y7, y8, y9⟩
  · exact hq.elim
  · rw [hhp] at y2 y3 y9
    have hWs : s.WarmedH U.vm := State.WarmedH.trans hW0 y7
    have hL0 : s'.sameButNew ({ U with vm := s'.vm } : State) [] 1 6 := ip_same_drop y8 (fun z hz => by rw [hhp]; exact y9 z hz)
    have hall : s.sameButNew ({ U with vm := s.vm } : State) locs mc ms := by
      rw [hvm] at hL0
      subst hA
      obtain ⟨e1, e2⟩ := hL0
      rw [State.setFrames_setFrames] at e1
      have h2 : (T.setVm s.vm).sameButNew ({ U with vm := s.vm } : State) [] (0 + 1) (0 + 6) := ⟨e1, e2⟩
      have h3 := X.same.trans h2
      rw [List.append_nil] at h3
      exact h3.mono hc hs
    exact Or.inr ⟨q, rfl, ip_NSE, ce, locs, hx U hWs.alike y2 y3, y4, y5, by rw [hvm] at y6; exact y6, hWs, hall, hf⟩
end Thr
end
section

def ip_tk (bs : ByteArray) (pc : Nat) : Bool := decide (decode bs pc = .ok (.new 127, 3)) && (decide (decode bs (pc + 3) = .ok (.dup, 1)) && ((decide (decode bs (pc + 4) = .ok (.ldc 129, 2)) || (decide (decode bs (pc + 4) = .ok (.ldc 171, 2)) || decide (decode bs (pc + 4) = .ok (.ldc 176, 2)))) && (decide (decode bs (pc + 6) = .ok (.invokespecial 131, 3)) && decide (decode bs (pc + 9) = .ok (.athrow, 1)))))
noncomputable def ip_tka (j : Nat) (bs : ByteArray) (n : Nat) : Bool := (List.range n).all (fun pc => match ip_T j pc with
  | some (.new _, _, _, _, 9) => ip_tk bs pc
  | _ => true)
theorem ip_tk_inn : ip_tka 82 cX4_innings 148 = true := by decide +kernel
theorem ip_tk_cut : ip_tka 83 cX4_cut 55 = true := by decide +kernel
theorem ip_tk_of {j pc n : Nat} {bs : ByteArray} {x : ip_E} {q : Nat} (h : ip_tka j bs n = true) (hz : n ≤ pc → ip_T j pc = none) (hx : ip_T j pc = some x) (h1 : x.1 = .new q) (h9 : x.2.2.2.2 = 9) : ip_tk bs pc = true := by
  rcases Nat.lt_or_ge pc n with h0 | h0
  · have h2 := List.all_eq_true.mp h pc (List.mem_range.mpr h0)
    obtain ⟨i, nx, a, b, c⟩ := x
    dsimp only at h1 h9
    subst h1 h9
    rw [hx] at h2
    exact h2
  · rw [hz h0] at hx
    cases hx
theorem ip_tk_w {bs : ByteArray} {pc : Nat} (h : ip_tk bs pc = true) : decode bs pc = .ok (.new 127, 3) ∧ decode bs (pc + 3) = .ok (.dup, 1) ∧ (∃ is, (is = 129 ∨ is = 171 ∨ is = 176) ∧ decode bs (pc + 4) = .ok (.ldc is, 2)) ∧ decode bs (pc + 6) = .ok (.invokespecial 131, 3) ∧ decode bs (pc + 9) = .ok (.athrow, 1) := by
  unfold ip_tk at h
  simp only [Bool.and_eq_true, Bool.or_eq_true, decide_eq_true_eq] at h
  obtain ⟨h1, h2, h3, h4, h5⟩ := h
  refine ⟨h1, h2, ?_, h4, h5⟩
  rcases h3 with h3 | h3 | h3
  · exact ⟨129, Or.inl rfl, h3⟩
  · exact ⟨171, Or.inr (Or.inl rfl), h3⟩
  · exact ⟨176, Or.inr (Or.inr rfl), h3⟩
theorem ip_ck1 : Cond.classLink RX4 127 ip_NSE ∈ ip_G := ip_in_mem (p := 724) (by decide +kernel)
theorem ip_ck2 : Cond.initialized ip_NSE ∈ ip_G := ip_in_mem (p := 66) (by decide +kernel)
theorem ip_ck3 : Cond.classLink RL 13 ip_NSE ∈ ip_G := ip_in_mem (p := 719) (by decide +kernel)
section Try1
variable {D : Type} {R : D → Int32 → Prop} {ops : ip_O D} {l : Launch} {base : Nat} {Dg : va_G} {cI cZ cJ : ClassId} {ra : Nat → Nat} {ro : List (List D)}
/-- a method that may throw: its end -/
def ip_XQ (R : D → Int32 → Prop) (base : Nat) (ra : Nat → Nat) (cI cZ cJ : ClassId) (Dg : va_G) (od : Option D) (hp' : ip_Hp D) (ws : va_W) (sz : Nat) : Array Value → State → Outcome → State → Prop :=
  va_Qi (fun (r : Int32) (ws' : va_W) => (∃ d, od = some d ∧ R d r) ∧ ip_hR R base ra cI cZ cJ hp' ws' ∧ va_D (va_A ws sz) ws') (fun ws' t => va_P Dg vwCl ws' t.heap) (va_A ws sz)
def ip_XX (R : D → Int32 → Prop) (base : Nat) (ra : Nat → Nat) (cI cZ cJ : ClassId) (Dg : va_G) (od : Option D) (hp' : ip_Hp D) (ws : va_W) (sz : Nat) : String → State → State → Prop :=
  vx_X (fun ws' : va_W => od = none ∧ ip_hR R base ra cI cZ cJ hp' ws' ∧ va_D (va_A ws sz) ws') (fun E ws' t => E = ip_NSE ∧ va_P Dg vwCl ws' t.heap) (va_A ws sz)
set_option maxHeartbeats 2000000 in
theorem ip_thr_met {run : Nat → ip_Fr D → Option (ip_Fr D)} (hO : ip_okO R ops) (hl : l.stackTraces = false) (IH : ip_RS R ops ro l base Dg cI cZ cJ ra run) {j cls kd pcode fr lo size pm ps sz : Nat} {y : MethodName} {bs : ByteArray} {ret : Option FieldType} (he : ip_ML[j]? = some (y, bs, ret, cls, kd, pcode, fr, lo, size, pm, ps)) (hj : j = 82 ∨ j = 83)
    {as : List (ip_V D)} {hp hp' : ip_Hp D} {od : Option D} {ws : va_W} {vs : List Value} (hthr : ip_thr run j as hp = some (od, hp')) (hlen : as.length ≤ ip_mx j)
    (hvs : ip_all2 (ip_gR R base ra) as vs) (hcat : ∀ v ∈ vs, v.category = 1) (hR : ip_hR R base ra cI cZ cJ hp ws) :
    vx_Met l y (Cond.code y bs (ip_mx j) ret :: ip_G) { frames := fr, cells := ip_bc j, slots := ip_bs j, locals := lo } (ip_Pc R base ra cI cZ cJ Dg ro hp false ws sz vs) (ip_XQ R base ra cI cZ cJ Dg od hp' ws sz) (ip_XX R base ra cI cZ cJ Dg od hp' ws sz) (ip_bc j) (ip_bs j) (va_A ws sz) := by
  obtain ⟨w1, w2, w3, w4, w5, w6, w7, w8, w9⟩ := ip_mok_w he
  have hnum : cls = 4 ∧ kd = 0 ∧ 5 < fr ∧ 90 ≤ lo ∧ ip_bc j = 1 ∧ ip_bs j = 6 ∧ ∀ pc x q, ip_T j pc = some x → x.1 = .new q → x.2.2.2.2 = 9 → ip_tk bs pc = true := by
    rcases hj with rfl | rfl
    · cases he
      exact ⟨rfl, rfl, by decide, by decide, rfl, rfl, fun pc x q h1 h2 h3 => ip_tk_of ip_tk_inn (tz_82 pc) h1 h2 h3⟩
    · cases he
      exact ⟨rfl, rfl, by decide, by decide, rfl, rfl, fun pc x q h1 h2 h3 => ip_tk_of ip_tk_cut (tz_83 pc) h1 h2 h3⟩
  obtain ⟨hcls, hkd, hfr, hlo, hbc, hbsl, htk⟩ := hnum
  unfold ip_thr at hthr
  split at hthr
  case h_2 => cases hthr
  rename_i pc' la' st' hp2 fz' hrun
  split at hthr
  · cases hthr
  rename_i x hx
  refine vx_ofW (cc := bs) (maxL := ip_mx j) (ret := ret) w4 rfl ?_
  intro p e s m args below meth c s₁ B hml hexT hv
  obtain ⟨rfl, hsz, hP, hK, hD0, hro, hfz⟩ := hv
  have hts := atoms_spec (ws := Cond.code y bs (ip_mx j) ret :: ip_G) B.pre
  have hown : s.vm.findClass y.cls = some m.cls := findClass_of_methodNamed B.named
  have hlocks := B.notSynchronized
  have hin : meth.name = y.name := (name_of_methodNamed B.named B.method).1
  have hr := B.returns
  subst hsz
  have hD := hD0.self (sz := s.heap.size)
  have C : ip_Cx R ops p s m vs.toArray meth c bs cls kd (ip_mx j) Dg cI cZ cJ (va_A ws s.heap.size) ra ro :=
    ⟨hO, B.exec, B.bytes, hml, by rw [← w1]; exact hown, fun w hw => hts w (List.mem_cons_of_mem _ hw), hK, fun q h => Or.inr h, hro, fun h => by rw [hin]; exact (w9 h).2.1⟩
  have hok := ip_tab he hx
  rw [lg_entry_eq]
  refine IH j y bs ret cls kd pcode fr lo size (pm, ps) he _ _ hrun p e _ s m vs.toArray below meth c _ (va_A ws s.heap.size) rfl rfl rfl rfl C ?_ _ [] s.heap [] (ip_ent_mL hvs hcat hlen) trivial ⟨⟨ws, hR, hP, hD⟩, va_S.rf, fun z => by cases z⟩
  intro ls st1 H locs h1 h2 h3
  have hls : ls.size = c.maxLocals := by obtain ⟨-, lv, h4, -⟩ := h1; rw [hml]; exact h4.1
  obtain ⟨⟨ws', hR', hP', hD'⟩, hS', hfz'⟩ := h3
  have hfree : ∀ q ∈ locs, va_A ws s.heap.size q.base := hS'.2.2
  obtain ⟨i, nx, a, b, c0⟩ := x
  dsimp only at hthr
  split at hthr
  · cases hthr
    obtain ⟨w, s2, rfl, ⟨u, rfl, hu⟩, h2'⟩ := ip_all2_cons h2
    cases ip_all2_nil h2'
    unfold ip_ok at hok
    dsimp only at hok
    rw [Bool.and_eq_true, Bool.and_eq_true, decide_eq_true_eq] at hok
    obtain ⟨⟨hdec, hln⟩, hok⟩ := hok
    have hok : ret = some .int := of_decide_eq_true hok
    have hd : decode bs pc' = .ok (.ireturn, 1) := by
      have e1 : nx = pc' + 1 := Nat.eq_of_beq_eq_true hln
      rw [hdec, e1, Nat.add_sub_cancel_left]
    refine W.widen (k := ip_bc j) (n := ip_bs j) (Nat.zero_le _) (Nat.zero_le _) (vx_ret ?_)
    exact W.iret C.2.1 C.2.2.1 (hr.trans hok) (fun t ht hW => ⟨⟨u, ws', rfl, ⟨⟨_, rfl, hu⟩, hR', hD'⟩, by show va_P Dg vwCl ws' t.heap; rw [ht]; exact hP'⟩, hS'.F ht⟩) hfree hd hlocks
  · cases hthr
    cases ip_all2_nil h2
    obtain ⟨d0, d3, ⟨is, his, d4⟩, d6, d9⟩ := ip_tk_w (htk pc' _ _ hx rfl rfl)
    have hownX : s.vm.findClass RX4 = some m.cls := by
      have := C.2.2.2.2.1
      rw [hcls] at this
      exact this
    refine ip_throw C.2.1 C.2.2.1 hl hownX C.2.2.2.2.2.1 hro.2.2 hS' hls ip_ck1 ip_ck2 his d0 d3 d4 d6 d9 (fun x hx => (hexT x hx).elim) hfr hlo (by show 0 + 1 ≤ ip_bc j; omega) (by show 0 + 6 ≤ ip_bs j; omega) hlocks (fun t hal hge hkp => ?_) hfree (by show 0 + 1 ≤ ip_bc j; omega) (by show 0 + 6 ≤ ip_bs j; omega)
    refine ⟨ws', ⟨rfl, hR', hD'⟩, ⟨rfl, hP'.kept (fun k q hq => hkp q.1 ((hP' k q hq).lt))⟩, Nat.le_trans hS'.1 hge, fun q a1 a2 => ?_⟩
    rw [hkp q (Nat.lt_of_lt_of_le a1 hS'.1)]
    exact hS'.2.1 q a1 a2
  · cases hthr
end Try1
end
section

noncomputable def ip_ivk (j : Nat) (n pc0 jt0 : Nat) : Bool := (List.range n).all (fun pc => match ip_T j pc with
  | some (.invokevirtual _, nx, jt, _, 9) => Nat.beq pc pc0 && (Nat.beq jt jt0 && Nat.beq nx (pc + 3))
  | _ => true)
theorem ip_ivk_inn : ip_ivk 205 19 5 82 = true := by decide +kernel
theorem ip_ivk_cut : ip_ivk 206 21 7 83 = true := by decide +kernel
theorem ip_ivk_of {j pc n pc0 jt0 q nx jt b : Nat} (h : ip_ivk j n pc0 jt0 = true) (hz : n ≤ pc → ip_T j pc = none) (hx : ip_T j pc = some (.invokevirtual q, nx, jt, b, 9)) : pc = pc0 ∧ jt = jt0 ∧ nx = pc + 3 := by
  rcases Nat.lt_or_ge pc n with h0 | h0
  · have h2 := List.all_eq_true.mp h pc (List.mem_range.mpr h0)
    rw [hx] at h2
    simp only [Bool.and_eq_true, Nat.beq_eq] at h2
    exact h2
  · rw [hz h0] at hx
    cases hx
theorem ip_cwI : Cond.codeWith yL_innings cL_innings 5 (some .int) [(0, 10, 13, 13)] ∈ ip_G := ip_in_mem (p := 718) (by decide +kernel)
theorem ip_cwC : Cond.codeWith yL_cut cL_cut 6 (some .int) [(0, 12, 15, 13)] ∈ ip_G := ip_in_mem (p := 793) (by decide +kernel)
theorem ip_stI : Cond.static yL_innings ∈ ip_G := ip_in_mem (p := 717) (by decide +kernel)
theorem ip_stC : Cond.static yL_cut ∈ ip_G := ip_in_mem (p := 792) (by decide +kernel)
theorem ip_daI : decode cL_innings 13 = .ok (.astore 4, 2) := by decide +kernel
theorem ip_daC : decode cL_cut 15 = .ok (.astore 5, 2) := by decide +kernel
section Try2
variable {D : Type} {R : D → Int32 → Prop} {ops : ip_O D} {l : Launch} {base : Nat} {Dg : va_G} {cI cZ cJ : ClassId} {ra : Nat → Nat} {ro : List (List D)}
/-- where the two methods that try lie -/
def ip_hd (j : Nat) : Nat := bif Nat.beq j 205 then 15 else 17
set_option maxHeartbeats 4000000 in
theorem ip_try_met {run : Nat → ip_Fr D → Option (ip_Fr D)} (hO : ip_okO R ops) (hl : l.stackTraces = false) (IH : ip_RS R ops ro l base Dg cI cZ cJ ra run) {j cls kd pcode fr lo size pm ps sz hpc k9 e9 : Nat} {y : MethodName} {bs : ByteArray} {ret : Option FieldType} (he : ip_ML[j]? = some (y, bs, ret, cls, kd, pcode, fr, lo, size, pm, ps))
    (hcls : cls = 6) (hkd : kd = 3) (hret : ret = some .int) (hcw : Cond.codeWith y bs (ip_mx j) ret [(0, e9, hpc, 13)] ∈ ip_G) (hda : decode bs hpc = .ok (.astore k9, 2)) (hk9 : k9 < ip_mx j) (hhd : ip_hd j = hpc + 2)
    (hiv : ∀ pc q nx jt b, ip_T j pc = some (.invokevirtual q, nx, jt, b, 9) → (jt = 82 ∨ jt = 83) ∧ covers ⟨0, e9, hpc, 13⟩ pc = true ∧ nx = pc + 3)
    {as : List (ip_V D)} {hp hp4 : ip_Hp D} {f1 f2 : ip_Fr D} {d4 : D} {pc4 mc4 ms4 nx4 a4 b4 : Nat} {la4 : List (Option (ip_V D))} {fz4 : Bool} {ws : va_W} {vs : List Value}
    (h1 : run j (ip_ent j as hp false) = some f1) (h2 : ip_tr2 run ip_hd j f1 = some f2) (h3 : run j f2 = some (pc4, la4, [.inl d4], hp4, mc4, ms4, fz4)) (h4 : ip_T j pc4 = some (.ireturn, nx4, a4, b4, 0)) (hlen : as.length ≤ ip_mx j) (hmc : mc4 ≤ ip_bc j) (hms : ms4 ≤ ip_bs j)
    (hvs : ip_all2 (ip_gR R base ra) as vs) (hcat : ∀ v ∈ vs, v.category = 1) (hR : ip_hR R base ra cI cZ cJ hp ws) :
    vx_Met l y (Cond.codeWith y bs (ip_mx j) ret [(0, e9, hpc, 13)] :: ip_G) { frames := fr, cells := ip_bc j, slots := ip_bs j, locals := lo } (ip_Pc R base ra cI cZ cJ Dg ro hp false ws sz vs) (ip_XQ R base ra cI cZ cJ Dg (some d4) hp4 ws sz) (vx_X (fun _ : Unit => False) (fun _ _ _ => True) (va_A ws sz)) (ip_bc j) (ip_bs j) (va_A ws sz) := by
  obtain ⟨w1, w2, w3, w4, w5, -⟩ := ip_mok_w he
  refine vx_ofWH (cc := bs) (maxL := ip_mx j) (ret := ret) w4 rfl ?_
  intro p e s m args below meth c s₁ B hml hv
  obtain ⟨rfl, hsz, hP, hK, hD0, hro, hfz⟩ := hv
  have hts := atoms_spec (ws := Cond.codeWith y bs (ip_mx j) ret [(0, e9, hpc, 13)] :: ip_G) B.pre
  have htab : c.exceptionTable.toList = tableOf [(0, e9, hpc, 13)] := vx_table (x := y) B (hts _ List.mem_cons_self)
  have hown : s.vm.findClass y.cls = some m.cls := findClass_of_methodNamed B.named
  have hlocks := B.notSynchronized
  have hr := B.returns
  subst hsz
  have hD := hD0.self (sz := s.heap.size)
  have C : ip_Cx R ops p s m vs.toArray meth c bs cls kd (ip_mx j) Dg cI cZ cJ (va_A ws s.heap.size) ra ro :=
    ⟨hO, B.exec, B.bytes, hml, by rw [← w1]; exact hown, fun w hw => hts w (List.mem_cons_of_mem _ hw), hK, fun q h => Or.inr h, hro, fun h => by rw [hkd] at h; cases h⟩
  rw [lg_entry_eq]
  have hok4 := ip_tab he h4
  have G4 : ip_good R p l e { frames := fr, cells := ip_bc j, slots := ip_bs j, locals := lo } s m vs.toArray below meth c (vx_MQ below (ip_XQ R base ra cI cZ cJ Dg (some d4) hp4 ws s.heap.size) (vx_X (fun _ : Unit => False) (fun _ _ _ => True) (va_A ws s.heap.size)) vs.toArray s (ip_bc j) (ip_bs j) (va_A ws s.heap.size)) (ip_mx j) base Dg cI cZ cJ (va_A ws s.heap.size) ra (pc4, la4, [.inl d4], hp4, mc4, ms4, fz4) := by
    intro ls st1 H locs g1 g2 g3
    obtain ⟨⟨ws', hR', hP', hD'⟩, hS', hfz'⟩ := g3
    obtain ⟨w, s2, rfl, ⟨u, rfl, hu⟩, h2'⟩ := ip_all2_cons g2
    cases ip_all2_nil h2'
    unfold ip_ok at hok4
    dsimp only at hok4
    rw [Bool.and_eq_true, Bool.and_eq_true, decide_eq_true_eq] at hok4
    obtain ⟨⟨hdec, hln⟩, -⟩ := hok4
    have hd : decode bs pc4 = .ok (.ireturn, 1) := by
      have e1 : nx4 = pc4 + 1 := Nat.eq_of_beq_eq_true hln
      rw [hdec, e1, Nat.add_sub_cancel_left]
    refine W.widen (k := ip_bc j) (n := ip_bs j) hmc hms (vx_ret ?_)
    exact W.iret C.2.1 C.2.2.1 (hr.trans hret) (fun t ht hW => ⟨⟨u, ws', rfl, ⟨⟨_, rfl, hu⟩, hR', hD'⟩, by show va_P Dg vwCl ws' t.heap; rw [ht]; exact hP'⟩, hS'.F ht⟩) hS'.2.2 hd hlocks
  have G2 := IH j y bs ret cls kd pcode fr lo size (pm, ps) he _ _ h3 p e { frames := fr, cells := ip_bc j, slots := ip_bs j, locals := lo } s m vs.toArray below meth c _ (va_A ws s.heap.size) rfl rfl rfl rfl C G4
  refine IH j y bs ret cls kd pcode fr lo size (pm, ps) he _ _ h1 p e _ s m vs.toArray below meth c _ (va_A ws s.heap.size) rfl rfl rfl rfl C ?_ _ [] s.heap [] (ip_ent_mL hvs hcat hlen) trivial ⟨⟨ws, hR, hP, hD⟩, va_S.rf, fun z => by cases z⟩
  -- at the call that may throw
  unfold ip_tr2 at h2
  split at h2
  case h_2 => cases h2
  rename_i pc1 ls1 st1 hp1 fz1
  split at h2
  case h_2 => cases h2
  rename_i q1 nx1 jt b hx1
  split at h2
  · cases h2
  rename_i as1 st2 harg
  obtain ⟨hjt, hcov, hnx⟩ := hiv _ _ _ _ _ hx1
  cases hcond : (ip_rcv hp1 0 (ip_oc jt) as1 && (Nat.ble as1.length (ip_mx jt) && (Nat.ble (ip_cat st2) 8 && (Nat.ble (ip_bc jt) (ip_bc j) && Nat.ble (ip_bs jt) (ip_bs j))))) with
  | false => rw [hcond] at h2; cases h2
  | true =>
  rw [hcond] at h2
  dsimp only [cond_true] at h2
  simp only [Bool.and_eq_true, Nat.ble_eq] at hcond
  obtain ⟨hrcv, hlen1, hcat2, hbc2, hbs2⟩ := hcond
  have hok1 := ip_tab he hx1
  unfold ip_ok at hok1
  dsimp only at hok1
  rw [Bool.and_eq_true, Bool.and_eq_true, decide_eq_true_eq] at hok1
  obtain ⟨⟨hdec1, -⟩, hok1⟩ := hok1
  have hd1 : decode bs pc1 = .ok (.invokevirtual q1, 3) := by rw [hdec1, hnx, Nat.add_sub_cancel_left]
  have hok1 : (ip_kl cls q1 jt && ip_rk fr lo jt b 0) = true := hok1
  rw [Bool.and_eq_true] at hok1
  obtain ⟨hkl, hrk⟩ := hok1
  unfold ip_rk at hrk
  split at hrk
  · cases hrk
  rename_i y' bs' ret' cls' kd' pcode' fr' lo' z9 he'
  simp only [Bool.and_eq_true, Nat.beq_eq, Nat.ble_eq, decide_eq_true_eq] at hrk
  obtain ⟨hkd', hfr', hlo', hb'⟩ := hrk
  obtain ⟨size', pm', ps'⟩ := z9
  obtain ⟨v1, v2, v3, v4, v5, v6, v7, v8, v9⟩ := ip_mok_w he'
  obtain ⟨hoc, -⟩ := ip_ock he'
  dsimp only at hoc
  obtain ⟨pre, hst1, hprel, has1, hpre⟩ := ip_arg_ok _ _ _ harg
  rw [List.append_nil] at has1
  cases hthr : ip_thr run jt as1 hp1 with
  | none => rw [hthr] at h2; cases h2
  | some od3 =>
  obtain ⟨od, hp3⟩ := od3
  rw [hthr] at h2
  intro ls s1 H locs g1 g2 g3
  dsimp only at g1 g2 g3
  rw [hst1] at g2
  obtain ⟨vpre, s2, rfl, ga, gb⟩ := ip_all2_app pre st2 s1 g2
  obtain ⟨⟨ws1, hR1, hP1, hD1⟩, hS1, hfz1⟩ := g3
  have hvs1 := ip_all2_rev ga
  have hvc1 : ∀ v ∈ vpre.reverse, v.category = 1 := ip_all2_cat hvs1 (fun v hv => hpre v (List.mem_reverse.mp hv))
  rw [← has1] at hvs1
  have Mt := ip_thr_met (sz := H.size) hO hl IH he' hjt hthr hlen1 hvs1 hvc1 hR1
  have hFc : ∀ q, va_A ws1 H.size q → va_A ws s.heap.size q := by
    intro q h
    rcases h with ⟨k, E, h⟩ | h
    · exact hD1.2 k (q, E) h
    · exact Or.inr (Nat.le_trans hS1.1 h)
  have hPre : ∀ U : State, U.heap = H → s.WarmedH U.vm → ip_Pc R base ra cI cZ cJ Dg ro hp1 false ws1 H.size vpre.reverse vpre.reverse.toArray U := fun U hU hW =>
    ⟨rfl, by rw [hU], by rw [hU]; exact hP1, va_K.moved hW.alike hK, hD1.weaken (fun _ _ _ _ => trivial), ip_ro_to R ra ro hro hS1 hFc hW hU, fun z => by cases z⟩
  have hls : ls.size = ip_mx j := by obtain ⟨-, lv, h4, -⟩ := g1; exact h4.1
  obtain ⟨q0, as0, k, fs, hrev, hq, hk1, hk2⟩ := ip_rcv0 hrcv
  rw [hrev] at hvs1
  obtain ⟨w, vAs, hvr, hg, hvs2⟩ := ip_all2_cons hvs1
  cases hg
  rw [ip_nth_eq] at hq
  obtain ⟨E, hE, hcr⟩ := hR1.2 q0 _ hq
  obtain ⟨fv, rfl, -⟩ := ip_cR_obj hk2 hcr
  have hrec := va_recv hK hP1 (ip_vw hk2) hE
  rw [hvr] at Mt hPre
  have hnn : vAs.length = b := by
    have := congrArg List.length hvr
    rw [List.length_reverse, ← ip_all2_len ga, hprel, List.length_cons] at this
    omega
  have hcB : CallB { frames := fr, cells := ip_bc j, slots := ip_bs j, locals := lo } s vs.toArray (ip_R cls) q1 y' bs' (ip_mx jt) ret' (Cond.code y' bs' (ip_mx jt) ret' :: ip_G) { frames := fr', cells := ip_bc jt, slots := ip_bs jt, locals := lo' } (ip_bc jt) (ip_bs jt) b :=
    callB_of b C.2.2.2.2.2.1 (ip_GG (v6 (Or.inl hkd'.symm))) rfl rfl rfl (by rw [v1]; exact C.2.2.2.2.2.1 _ v5) (C.2.2.2.2.2.1 _ (ip_kl_w hkl he')) ⟨v2, v3, hb'⟩ ⟨hfr', hlo'⟩
  refine vx_calli (vx_runV (As := vAs) (rest := s2) (b := base + q0) (C := ip_R k) (nL := ip_mx j) ⟨C.2.1, C.2.2.1, C.2.2.2.1, C.2.2.2.2.1, C.2.2.2.2.2.1⟩ Mt ⟨hcB, C.2.2.2.2.2.1 _ (v7 hkd'.symm).1, by rw [hk1, hoc]; exact C.2.2.2.2.2.1 _ (v7 hkd'.symm).2⟩ ⟨ip_Pc_blind R base ra cI cZ cJ Dg ro, hrec, hPre⟩ rfl hnn hls (ip_split3 (P := fun _ _ => True) hvr) (lv_room (by rw [ip_cat_eq gb]; exact hcat2)) hd1 ⟨by show 0 + ip_bc jt ≤ ip_bc j; omega, by show 0 + ip_bs jt ≤ ip_bs j; omega⟩) hS1 (fun q _ h => hFc q h) hFc (fun q _ h => hFc q h) (fun E9 ce q9 u9 t H9 locs9 e1 e2 px bx e5 e6 e7 e8 e9' e10 => ?_) (fun r u t H9 locs9 e1 e2 hpost hB e5 e6 e7 => ?_)
  · obtain ⟨hod, hR9, hD9⟩ := px
    obtain ⟨hE9, hP9⟩ := bx
    subst hE9
    subst hod
    cases h2
    have hbc9 : ip_hd j = hpc + 2 := hhd
    refine vx_catch (name := ip_NSE) C.2.2.2.2.1 [] ⟨0, e9, hpc, 13⟩ [] (by rw [htab]; rfl) (fun z hz => by cases hz) hcov (by show (13 : Nat) ≠ 0; decide) (by rw [hcls]; exact C.2.2.2.2.2.1 _ ip_ck3) (va_Nw.use rfl (hro.2.2.2.2.1 _ ip_B_cast)) e8 e9' e10 ?_
    obtain ⟨hla, lv, hlv, -⟩ := g1
    refine lv_astore C.2.1 C.2.2.1 hda hlv hk9 rfl (fun ls' hlv' => ?_)
    have hgo := G2 ls' [] H9 locs9 ⟨by simp [hla], _, hlv', fun k v hv => by
      rw [List.getElem?_map] at hv
      cases hq9 : ls1[k]? <;> rw [hq9] at hv <;> cases hv⟩ trivial ⟨⟨u9, hR9, by rw [← e1]; exact hP9, hD9.weaken (fun _ _ _ h => hFc _ h)⟩, e7, fun z => by cases z⟩
    have e12 : (0 : Nat) + ip_bc jt = ip_bc jt := Nat.zero_add _
    have e13 : (0 : Nat) + ip_bs jt = ip_bs jt := Nat.zero_add _
    dsimp only at hgo
    rw [hbc9] at hgo
    show W p l e _ s m vs.toArray below meth c H9 locs9 (0 + ip_bc jt) (0 + ip_bs jt) _ _
    rw [e12, e13]
    exact hgo
  · obtain ⟨⟨d, hod, hdr⟩, hR9, hD9⟩ := hpost
    subst hod
    cases h2
    have hgo := G2 ls (.int r :: s2) H9 locs9 g1 ⟨⟨r, rfl, hdr⟩, gb⟩ ⟨⟨u, hR9, by rw [← e1]; exact hB, hD9.weaken (fun _ _ _ h => hFc _ h)⟩, e7, fun z => by cases z⟩
    have e12 : (0 : Nat) + ip_bc jt = ip_bc jt := Nat.zero_add _
    have e13 : (0 : Nat) + ip_bs jt = ip_bs jt := Nat.zero_add _
    dsimp only at hgo
    rw [hnx] at hgo
    show W p l e _ s m vs.toArray below meth c H9 locs9 (0 + ip_bc jt) (0 + ip_bs jt) _ _
    rw [e12, e13]
    exact hgo
end Try2
end
section

theorem ip_k3_all : (List.range 208).all (fun j => match ip_ML[j]? with
    | none => true
    | some e => !(Nat.beq e.2.2.2.2.1 3) || (Nat.beq j 205 || Nat.beq j 206)) = true := by decide +kernel
theorem ip_k3 {j : Nat} {e : ip_ME} (he : ip_ML[j]? = some e) (h3 : e.2.2.2.2.1 = 3) : j = 205 ∨ j = 206 := by
  have hn : j < 208 := (List.getElem?_eq_some_iff.mp he).1
  have h := List.all_eq_true.mp ip_k3_all j (List.mem_range.mpr hn)
  simp only [he, h3, Bool.or_eq_true, Nat.beq_eq] at h
  rcases h with h | h | h
  · exact absurd h (by decide)
  · exact Or.inl h
  · exact Or.inr h
theorem ip_try_facts {j cls kd pcode fr lo size pm ps : Nat} {y : MethodName} {bs : ByteArray} {ret : Option FieldType} (he : ip_ML[j]? = some (y, bs, ret, cls, kd, pcode, fr, lo, size, pm, ps)) (hkd : kd = 3) :
    ∃ e9 hpc k9, cls = 6 ∧ ret = some .int ∧ Cond.codeWith y bs (ip_mx j) ret [(0, e9, hpc, 13)] ∈ ip_G ∧ Cond.static y ∈ ip_G ∧ decode bs hpc = .ok (.astore k9, 2) ∧ k9 < ip_mx j ∧ ip_hd j = hpc + 2 ∧
      ∀ pc q nx jt b, ip_T j pc = some (.invokevirtual q, nx, jt, b, 9) → (jt = 82 ∨ jt = 83) ∧ covers ⟨0, e9, hpc, 13⟩ pc = true ∧ nx = pc + 3 := by
  rcases ip_k3 he hkd with rfl | rfl
  · cases he
    refine ⟨10, 13, 4, rfl, rfl, ip_cwI, ip_stI, ip_daI, by decide, rfl, fun pc q nx jt b h => ?_⟩
    obtain ⟨rfl, rfl, h3⟩ := ip_ivk_of ip_ivk_inn (tz_205 pc) h
    exact ⟨Or.inl rfl, by decide, h3⟩
  · cases he
    refine ⟨12, 15, 5, rfl, rfl, ip_cwC, ip_stC, ip_daC, by decide, rfl, fun pc q nx jt b h => ?_⟩
    obtain ⟨rfl, rfl, h3⟩ := ip_ivk_of ip_ivk_cut (tz_206 pc) h
    exact ⟨Or.inr rfl, by decide, h3⟩
section Runs
variable {D : Type} {R : D → Int32 → Prop} {ops : ip_O D} {p : Program} {l : Launch} {e : Env} {Rm : Room} {s : State} {m : MethodId} {args : Array Value} {below : List Frame} {meth : Method} {c : Code} {Q : State → Prop} {bs : ByteArray} {cls kd nL base : Nat} {Dg : va_G} {cI cZ cJ : ClassId} {A : Nat → Prop} {ra : Nat → Nat} {ro : List (List D)}
variable {pc mc ms : Nat} {la : List (Option (ip_V D))} {hp : ip_Hp D} {fz : Bool}
set_option maxHeartbeats 2000000 in
theorem ip_cat2_ok (C : ip_Cx R ops p s m args meth c bs cls kd nL Dg cI cZ cJ A ra ro) (hl : l.stackTraces = false) {run : Nat → ip_Fr D → Option (ip_Fr D)} (IH : ip_RS R ops ro l base Dg cI cZ cJ ra run) {j jc q b cls' kd' pcode' fr' lo' size' pm' ps' : Nat} {y' : MethodName} {bs' : ByteArray} {ret' : Option FieldType} {pre st' : List (ip_V D)} {f2 : ip_Fr D}
    (he' : ip_ML[jc]? = some (y', bs', ret', cls', kd', pcode', fr', lo', size', pm', ps')) (hRc : Rm.cells = ip_bc j) (hRs : Rm.slots = ip_bs j) (hd : decode bs pc = .ok (.invokestatic q, 3)) (hkd : kd' = 3) (hn : pre.length = b) (hlk : Cond.methodLink (ip_R cls) q y' ∈ ip_G)
    (hfr : fr' + 1 ≤ Rm.frames) (hlo : 8 + (ip_mx jc + 11) + lo' ≤ Rm.locals) (hb : (parseMethodDescriptor y'.desc).map (fun d => d.parameters.length) = some b) (hpre : ∀ v ∈ pre, ip_one v = true) (hcat : ip_cat st' ≤ 8)
    (hcal : ip_cat2 run ip_hd j jc pre.reverse (pc + 3, la, st', hp, mc, ms, fz) = some f2) (hk : ip_good R p l e Rm s m args below meth c Q nL base Dg cI cZ cJ A ra f2) : ip_good R p l e Rm s m args below meth c Q nL base Dg cI cZ cJ A ra (pc, la, pre ++ st', hp, mc, ms, fz) := by
  obtain ⟨e9, hpc, k9, t1, t2, t3, t4, t5, t6, t7, t8⟩ := ip_try_facts he' hkd
  obtain ⟨w1, w2, w3, w4, w5, -⟩ := ip_mok_w he'
  unfold ip_cat2 at hcal
  dsimp only at hcal
  split at hcal
  · cases hcal
  rename_i f1 h1
  split at hcal
  · cases hcal
  rename_i f3 h2
  split at hcal
  case h_2 => cases hcal
  rename_i pc4 la4 d4 hp4 mc4 ms4 fz4 h3
  split at hcal
  case h_2 => cases hcal
  rename_i nx4 a4 b4 h4
  cases hcond : (Nat.beq (ip_kd jc) 3 && (Nat.ble pre.reverse.length (ip_mx jc) && (Nat.ble mc4 (ip_bc jc) && (Nat.ble ms4 (ip_bs jc) && (Nat.ble (mc + ip_bc jc) (ip_bc j) && Nat.ble (ms + ip_bs jc) (ip_bs j)))))) with
  | false => rw [hcond] at hcal; cases hcal
  | true =>
  rw [hcond] at hcal
  cases hcal
  simp only [Bool.and_eq_true, Nat.ble_eq, Nat.beq_eq] at hcond
  obtain ⟨-, hlen, hmc, hms, hmc2, hms2⟩ := hcond
  intro ls s1 H locs g1 g2 g3
  obtain ⟨vpre, s2, rfl, ga, gb⟩ := ip_all2_app pre st' s1 g2
  obtain ⟨⟨ws, hR, hP, hD⟩, hS, hfz⟩ := g3
  have hvs := ip_all2_rev ga
  have hvc : ∀ v ∈ vpre.reverse, v.category = 1 := ip_all2_cat hvs (fun v hv => hpre v (List.mem_reverse.mp hv))
  have Mt := ip_try_met (sz := H.size) C.1 hl IH he' t1 hkd t2 t3 t5 t6 t7 t8 h1 h2 h3 h4 hlen hmc hms hvs hvc hR
  have hFc : ∀ q, va_A ws H.size q → A q := by
    intro q h
    rcases h with ⟨k, E, h⟩ | h
    · exact hD.2 k (q, E) h
    · exact C.2.2.2.2.2.2.2.1 q (Nat.le_trans hS.1 h)
  have hPre : ∀ U : State, U.heap = H → s.WarmedH U.vm → ip_Pc R base ra cI cZ cJ Dg ro hp false ws H.size vpre.reverse vpre.reverse.toArray U := fun U hU hW =>
    ⟨rfl, by rw [hU], by rw [hU]; exact hP, va_K.moved hW.alike C.2.2.2.2.2.2.1, hD.weaken (fun _ _ _ _ => trivial), ip_ro_to R ra ro C.2.2.2.2.2.2.2.2.1 hS hFc hW hU, fun z => by cases z⟩
  have hls : ls.size = nL := by obtain ⟨-, lv, h4, -⟩ := g1; exact h4.1
  have hG : GoodIn ip_G (va_wsS (ip_R cls) q y' (Cond.codeWith y' bs' (ip_mx jc) ret' [(0, e9, hpc, 13)] :: ip_G)) := by
    intro w hw
    unfold va_wsS at hw
    rcases List.mem_append.mp hw with hw | hw
    · simp only [List.mem_cons, List.not_mem_nil, or_false] at hw
      rcases hw with rfl | rfl | rfl
      · exact ip_Gin hlk
      · exact ip_Gin t4
      · exact ip_Gin (by rw [w1]; exact w5)
    · exact ip_GG t3 w hw
  have hcw := vx_cwSW (R := Rm) (args := args) (s := s) (rm := { frames := fr', cells := ip_bc jc, slots := ip_bs jc, locals := lo' }) b C.2.2.2.2.2.1 hG rfl rfl rfl ⟨w2, w3, hb⟩ ⟨hfr, hlo⟩
  have hnn : vpre.reverse.length = b := by rw [List.length_reverse, ← ip_all2_len ga, hn]
  refine vx_calli (vx_runSX (As := vpre.reverse) (rest := s2) (nL := nL) ⟨C.2.1, C.2.2.1, C.2.2.2.1, C.2.2.2.2.1, C.2.2.2.2.2.1⟩ Mt hcw ⟨ip_Pc_blind R base ra cI cZ cJ Dg ro, hPre⟩ rfl hnn hls (by rw [List.reverse_reverse]) (lv_room (by rw [ip_cat_eq gb]; exact hcat)) hd ⟨by rw [hRc]; exact hmc2, by rw [hRs]; exact hms2⟩) hS (fun q _ h => hFc q h) hFc (fun q _ h => hFc q h) (fun E9 ce q9 u9 t H9 locs9 e1 e2 px bx e5 e6 e7 e8 e9' e10 => px.elim) (fun r u t H9 locs9 e1 e2 hpost hB e5 e6 e7 => ?_)
  obtain ⟨⟨d, hod, hdr⟩, hR9, hD9⟩ := hpost
  cases hod
  exact hk ls (.int r :: s2) H9 locs9 g1 ⟨⟨r, rfl, hdr⟩, gb⟩ ⟨⟨u, hR9, by rw [← e1]; exact hB, hD9.weaken (fun _ _ _ h => hFc _ h)⟩, e7, fun z => by cases z⟩
theorem ip_cal_rcv {run : Nat → ip_Fr D → Option (ip_Fr D)} {j jc : Nat} {as st : List (ip_V D)} {f2 : ip_Fr D} (h : ip_cal ops run j jc as (pc, la, st, hp, mc, ms, fz) = some f2) : ip_rcv hp (ip_kd jc) (ip_oc jc) as = true := by
  unfold ip_cal at h
  dsimp only at h
  split at h
  · cases h
  split at h
  · cases h
  split at h
  · cases h
  cases hc : ip_rcv hp (ip_kd jc) (ip_oc jc) as with
  | true => rfl
  | false => rw [hc] at h; cases h
theorem ip_rk_w {fr lo a b k0 : Nat} (h : ip_rk fr lo a b k0 = true) : ∃ y bs ret cls kd pcode fr' lo' size pm ps, ip_ML[a]? = some (y, bs, ret, cls, kd, pcode, fr', lo', size, pm, ps) ∧ k0 = kd ∧ fr' + 1 ≤ fr ∧ 8 + (ip_mx a + 11) + lo' ≤ lo ∧ (parseMethodDescriptor y.desc).map (fun d => d.parameters.length) = some b := by
  unfold ip_rk at h
  split at h
  · cases h
  rename_i y' bs' ret' cls' kd' pcode' fr' lo' z9 he'
  simp only [Bool.and_eq_true, Nat.beq_eq, Nat.ble_eq, decide_eq_true_eq] at h
  obtain ⟨h1, h2, h3, h4⟩ := h
  obtain ⟨size', pm', ps'⟩ := z9
  exact ⟨y', bs', ret', cls', kd', pcode', fr', lo', size', pm', ps', he', h1, h2, h3, h4⟩
set_option maxHeartbeats 2000000 in
theorem ip_run_ok (hO : ip_okO R ops) (hl : l.stackTraces = false) (sp : Nat → Nat → Bool) (n : Nat) : ip_RS R ops ro l base Dg cI cZ cJ ra (ip_run ops ro ip_hd sp n) := by
  induction n with
  | zero =>
    intro j y bs ret cls kd pcode fr lo size z9 he f fe h
    cases (show (none : Option (ip_Fr D)) = some fe from h)
  | succ n ih =>
    intro j y bs ret cls kd pcode fr lo size z9 he f fe h p e Rm s m args below meth c Q A hRf hRl hRc hRs C hG
    have h : ip_body ops ro ip_hd sp (ip_run ops ro ip_hd sp n) j f = some fe := h
    obtain ⟨pc, la, st, hp, mc, ms, fz⟩ := f
    unfold ip_body at h
    dsimp only at h
    split at h
    · cases h
    rename_i x hx
    cases hs : (ip_stop x || sp j pc) with
    | true =>
      rw [hs] at h
      cases h
      exact hG
    | false =>
    rw [hs] at h
    dsimp only [cond_false] at h
    subst hRf hRl
    have hok := ip_tab he hx
    split at h
    · cases h
    · rename_i f' hst
      exact ip_step_ok C hRc hRs hok hst (ih j y bs ret cls kd pcode Rm.frames Rm.locals size z9 he f' fe h p e Rm s m args below meth c Q A rfl rfl hRc hRs C hG)
    · rename_i jc as f' hst
      obtain ⟨q, pre, st', rfl, rfl, hpre, hne, hcat, rfl, rfl, hkind⟩ := ip_step_inr hst
      obtain ⟨i, nx, a, b, c0⟩ := x
      unfold ip_ok at hok
      dsimp only at hok hkind h
      rw [Bool.and_eq_true, Bool.and_eq_true, decide_eq_true_eq] at hok
      obtain ⟨⟨hdec, hln⟩, hok⟩ := hok
      have key : Nat.beq (ip_ln i) 0 = false → nx = pc + ip_ln i ∧ decode bs pc = .ok (i, ip_ln i) := by
        intro q
        rw [q, Bool.false_or] at hln
        have e1 := Nat.eq_of_beq_eq_true hln
        refine ⟨e1, ?_⟩
        rw [hdec, e1, Nat.add_sub_cancel_left]
      have hgo : ∀ f2, ip_run ops ro ip_hd sp n j f2 = some fe → ip_good R p l e Rm s m args below meth c Q (ip_mx j) base Dg cI cZ cJ A ra f2 := fun f2 h2 =>
        ih j y bs ret cls kd pcode Rm.frames Rm.locals size z9 he f2 fe h2 p e Rm s m args below meth c Q A rfl rfl hRc hRs C hG
      have hfin : ∃ k0, nx = pc + 3 ∧ decode bs pc = .ok (i, 3) ∧ (ip_kl cls q a && ip_rk Rm.frames Rm.locals a b k0) = true ∧ ((i = .invokevirtual q ∧ k0 = 0 ∧ pre.length = b + 1) ∨ (i = .invokestatic q ∧ (k0 = 1 ∨ k0 = 3) ∧ pre.length = b) ∨ (i = .invokespecial q ∧ k0 = 2 ∧ pre.length = b + 1)) := by
        rcases hkind with ⟨rfl, hn⟩ | ⟨rfl, hn4, hn⟩ | ⟨rfl, hc2, hn⟩
        · obtain ⟨k1, k2⟩ := key rfl
          refine ⟨0, k1, k2, ?_, Or.inl ⟨rfl, rfl, hn⟩⟩
          dsimp only at hok
          split at hok <;> exact hok
        · obtain ⟨k1, k2⟩ := key rfl
          dsimp only at hok
          split at hok
          · exact ⟨1, k1, k2, hok, Or.inr (Or.inl ⟨rfl, Or.inl rfl, hn⟩)⟩
          · exact absurd rfl hn4
          · exact ⟨3, k1, k2, hok, Or.inr (Or.inl ⟨rfl, Or.inr rfl, hn⟩)⟩
        · obtain ⟨k1, k2⟩ := key rfl
          subst hc2
          exact ⟨2, k1, k2, hok, Or.inr (Or.inr ⟨rfl, rfl, hn⟩)⟩
      obtain ⟨k0, rfl, hd, hok1, hkind2⟩ := hfin
      rw [Bool.and_eq_true] at hok1
      obtain ⟨hkl, hrk⟩ := hok1
      obtain ⟨y', bs', ret', cls', kd', pcode', fr', lo', size', pm', ps', he', rfl, hfr, hlo, hb⟩ := ip_rk_w hrk
      have hlk := ip_kl_w hkl he'
      obtain ⟨-, hkdc⟩ := ip_ock he'
      dsimp only at hkdc
      cases h8 : Nat.beq c0 8 with
      | true =>
        rw [h8] at h
        dsimp only [cond_true] at h
        split at h
        · cases h
        rename_i f2 hcal
        have hk3 : ip_kd a = 3 := by
          unfold ip_cat2 at hcal
          dsimp only at hcal
          split at hcal
          · cases hcal
          split at hcal
          · cases hcal
          split at hcal
          case h_2 => cases hcal
          split at hcal
          case h_2 => cases hcal
          cases hc : Nat.beq (ip_kd a) 3 with
          | true => exact Nat.eq_of_beq_eq_true hc
          | false => rw [hc] at hcal; cases hcal
        have hk3' : k0 = 3 := hkdc.symm.trans hk3
        rcases hkind2 with ⟨-, h9, -⟩ | ⟨rfl, -, hn⟩ | ⟨-, h9, -⟩
        · omega
        · exact ip_cat2_ok C hl ih he' hRc hRs hd hk3' hn hlk hfr hlo hb hpre hcat hcal (hgo f2 h)
        · omega
      | false =>
        rw [h8] at h
        dsimp only [cond_false] at h
        split at h
        · cases h
        rename_i f2 hcal
        refine ip_cal_ok C ih he' hRc hRs hd (q := q) (b := b) ?_ hlk hfr hlo hb hpre hne hcat hcal (hgo f2 h)
        rcases hkind2 with ⟨h9, h10, h11⟩ | ⟨h9, h10 | h10, h11⟩ | ⟨h9, h10, h11⟩
        · exact Or.inl ⟨h9, h10, h11⟩
        · exact Or.inr (Or.inl ⟨h9, h10, h11⟩)
        · have hr := ip_cal_rcv hcal
          rw [hkdc, h10] at hr
          exact absurd (show false = true from hr) (by decide)
        · exact Or.inr (Or.inr ⟨h9, h10, h11⟩)
end Runs
end
