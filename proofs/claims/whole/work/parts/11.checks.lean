/-! CHECKS of every row of code against the program's bytes and the words. -/
/-- the words of a call: x the callee, y 1 for a nest mate's constructor -/
def z_okC (o : Nat) (i : Instr) (x y w : Nat) : Prop := match i with
  | .invokestatic n => if x = 901 then (z_wl o)[w]? = some (.methodLink (z_RO o) n arraycopyName) else x < 282 ∧ (z_wl o)[w]? = some (.methodLink (z_RO o) n (z_nm x))
  | .invokevirtual n => x = 902 ∨ x = 903 ∨ (x < 282 ∧ (z_wl o)[w]? = some (.methodLink (z_RO o) n (z_nm x)))
  | .invokespecial n => if x = 900 then (z_wl o)[w]? = some (.methodLink (z_RO o) n objectInit) else x < 282 ∧ (if y = 1 then z_nst[w]? = some (z_RO o, n, z_nm x) else (z_wl o)[w]? = some (.methodLink (z_RO o) n (z_nm x)))
  | _ => True
def z_bK (o : Nat) (i : Instr) (x y w : Nat) (v : Int) (pc : Nat) (ts : List Nat) : Bool := match i with
  | .ldc n => if x = 0 then decide ((z_wl o)[w]? = some (.constant (z_RO o) n (Int32.ofInt v))) else decide (x = 1 ∧ o = 10 ∧ n = 40)
  | .ldc_w n => decide ((z_wl o)[w]? = some (.constant (z_RO o) n (Int32.ofInt v)))
  | .ldc2_w n => decide ((z_wl o)[w]? = some (.constantLong (z_RO o) n (Int64.ofInt v)))
  | .goto off => decide ((pc : Int) + off = (x : Int))
  | .ifCond _ off => decide ((pc : Int) + off = (x : Int))
  | .if_icmp _ off => decide ((pc : Int) + off = (x : Int))
  | .tableswitch df lo hi of => decide ((pc : Int) + df = (x : Int) ∧ hi = lo + (ts.length : Int) - 1 ∧ -1000 ≤ lo ∧ ts.length ≤ 1000 ∧ lo ≤ 1000 ∧ of.toList.map (fun o => (pc : Int) + o) = ts.map (fun (t : Nat) => (t : Int)))
  | .getfield n => decide ((z_wl o)[w]? = some (.fieldLink (z_RO o) n (z_T x y).1 (z_T x y).2.1 (z_T x y).2.2.1))
  | .putfield n => decide ((z_wl o)[w]? = some (.fieldLink (z_RO o) n (z_T x y).1 (z_T x y).2.1 (z_T x y).2.2.1))
  | .new n => decide (x < 13 ∧ (z_wl o)[w]? = some (.classLink (z_RO o) n (z_RO x)))
  | .anewarray n => decide ((x = 23 ∨ x = 24) ∧ (z_wl o)[w]? = some (.classLink (z_RO o) n (z_el x)))
  | .invokestatic n => if x = 901 then decide ((z_wl o)[w]? = some (.methodLink (z_RO o) n arraycopyName)) else decide (x < 282 ∧ (z_wl o)[w]? = some (.methodLink (z_RO o) n (z_nm x)))
  | .invokevirtual n => decide (x = 902 ∨ x = 903 ∨ (x < 282 ∧ (z_wl o)[w]? = some (.methodLink (z_RO o) n (z_nm x))))
  | .invokespecial n => if x = 900 then decide ((z_wl o)[w]? = some (.methodLink (z_RO o) n objectInit)) else decide (x < 282) && (if y = 1 then decide (z_nst[w]? = some (z_RO o, n, z_nm x)) else decide ((z_wl o)[w]? = some (.methodLink (z_RO o) n (z_nm x))))
  | _ => true
theorem z_bK_ok {o : Nat} {i : Instr} {x y w : Nat} {v : Int} {pc : Nat} {ts : List Nat} (h : z_bK o i x y w v pc ts = true) : z_okK o i x w v ∧ z_okB i pc x ts ∧ z_okF o i x y w ∧ z_okN o i x w ∧ z_okC o i x y w := by
  cases i with
  | ldc n =>
    refine ⟨?_, trivial, trivial, trivial, trivial⟩
    unfold z_okK
    unfold z_bK at h
    dsimp only at h ⊢
    split at h
    · rename_i hx; rw [if_pos hx]; exact of_decide_eq_true h
    · rename_i hx; rw [if_neg hx]; exact of_decide_eq_true h
  | ldc_w n => exact ⟨of_decide_eq_true h, trivial, trivial, trivial, trivial⟩
  | ldc2_w n => exact ⟨of_decide_eq_true h, trivial, trivial, trivial, trivial⟩
  | goto off => exact ⟨trivial, of_decide_eq_true h, trivial, trivial, trivial⟩
  | ifCond c off => exact ⟨trivial, of_decide_eq_true h, trivial, trivial, trivial⟩
  | if_icmp c off => exact ⟨trivial, of_decide_eq_true h, trivial, trivial, trivial⟩
  | tableswitch df lo hi of => exact ⟨trivial, of_decide_eq_true h, trivial, trivial, trivial⟩
  | getfield n => exact ⟨trivial, trivial, of_decide_eq_true h, trivial, trivial⟩
  | putfield n => exact ⟨trivial, trivial, of_decide_eq_true h, trivial, trivial⟩
  | new n => exact ⟨trivial, trivial, trivial, of_decide_eq_true h, trivial⟩
  | anewarray n => exact ⟨trivial, trivial, trivial, of_decide_eq_true h, trivial⟩
  | invokestatic n =>
    refine ⟨trivial, trivial, trivial, trivial, ?_⟩
    unfold z_okC
    unfold z_bK at h
    dsimp only at h ⊢
    split at h
    · rename_i hx; rw [if_pos hx]; exact of_decide_eq_true h
    · rename_i hx; rw [if_neg hx]; exact of_decide_eq_true h
  | invokevirtual n => exact ⟨trivial, trivial, trivial, trivial, of_decide_eq_true h⟩
  | invokespecial n =>
    refine ⟨trivial, trivial, trivial, trivial, ?_⟩
    unfold z_okC
    unfold z_bK at h
    dsimp only at h ⊢
    split at h
    · rename_i hx; rw [if_pos hx]; exact of_decide_eq_true h
    · rename_i hx
      rw [if_neg hx]
      rw [Bool.and_eq_true] at h
      refine ⟨of_decide_eq_true h.1, ?_⟩
      have h2 := h.2
      split at h2
      · rename_i hy; rw [if_pos hy]; exact of_decide_eq_true h2
      · rename_i hy; rw [if_neg hy]; exact of_decide_eq_true h2
  | _ => exact ⟨trivial, trivial, trivial, trivial, trivial⟩
def z_isT (i : Instr) : Bool := match i with
  | .tableswitch _ _ _ _ => true
  | _ => false
/-- a row of code is right -/
def z_bE (o : Nat) (cc : ByteArray) (q : Nat × z_En) : Bool :=
  decide (decode cc q.1 = .ok (q.2.1, q.2.2.1)) && ((z_isT q.2.1 || decide (z_len q.2.1 = q.2.2.1)) && z_bK o q.2.1 q.2.2.2.2.2.1 q.2.2.2.2.2.2.1 q.2.2.2.2.2.2.2.1 q.2.2.2.2.2.2.2.2 q.1 q.2.2.2.2.1)
def z_bM (mi : Nat) (l : List (Nat × z_En)) : Bool := l.all (z_bE (z_ow mi) (z_cc mi))
theorem z_b0 : z_bM 0 z_c0 = true := by decide +kernel
theorem z_b1 : z_bM 1 z_c1 = true := by decide +kernel
theorem z_b2 : z_bM 2 z_c2 = true := by decide +kernel
theorem z_b3 : z_bM 3 z_c3 = true := by decide +kernel
theorem z_b4 : z_bM 4 z_c4 = true := by decide +kernel
theorem z_b5 : z_bM 5 z_c5 = true := by decide +kernel
theorem z_b6 : z_bM 6 z_c6 = true := by decide +kernel
theorem z_b7 : z_bM 7 z_c7 = true := by decide +kernel
theorem z_b8 : z_bM 8 z_c8 = true := by decide +kernel
theorem z_b9 : z_bM 9 z_c9 = true := by decide +kernel
theorem z_b10 : z_bM 10 z_c10 = true := by decide +kernel
theorem z_b11 : z_bM 11 z_c11 = true := by decide +kernel
theorem z_b12 : z_bM 12 z_c12 = true := by decide +kernel
theorem z_b13 : z_bM 13 z_c13 = true := by decide +kernel
theorem z_b14 : z_bM 14 z_c14 = true := by decide +kernel
theorem z_b15 : z_bM 15 z_c15 = true := by decide +kernel
theorem z_b16 : z_bM 16 z_c16 = true := by decide +kernel
theorem z_b17 : z_bM 17 z_c17 = true := by decide +kernel
theorem z_b18 : z_bM 18 z_c18 = true := by decide +kernel
theorem z_b19 : z_bM 19 z_c19 = true := by decide +kernel
theorem z_b20 : z_bM 20 z_c20 = true := by decide +kernel
theorem z_b21 : z_bM 21 z_c21 = true := by decide +kernel
theorem z_b22 : z_bM 22 z_c22 = true := by decide +kernel
theorem z_b23 : z_bM 23 z_c23 = true := by decide +kernel
theorem z_b24 : z_bM 24 z_c24 = true := by decide +kernel
theorem z_b25 : z_bM 25 z_c25 = true := by decide +kernel
theorem z_b26 : z_bM 26 z_c26 = true := by decide +kernel
theorem z_b27 : z_bM 27 z_c27 = true := by decide +kernel
theorem z_b28 : z_bM 28 z_c28 = true := by decide +kernel
theorem z_b29 : z_bM 29 z_c29 = true := by decide +kernel
theorem z_b30 : z_bM 30 z_c30 = true := by decide +kernel
theorem z_b31 : z_bM 31 z_c31 = true := by decide +kernel
theorem z_b32 : z_bM 32 z_c32 = true := by decide +kernel
theorem z_b33 : z_bM 33 z_c33 = true := by decide +kernel
theorem z_b34 : z_bM 34 z_c34 = true := by decide +kernel
theorem z_b35 : z_bM 35 z_c35 = true := by decide +kernel
theorem z_b36 : z_bM 36 z_c36 = true := by decide +kernel
theorem z_b37 : z_bM 37 z_c37 = true := by decide +kernel
theorem z_b38 : z_bM 38 z_c38 = true := by decide +kernel
theorem z_b39 : z_bM 39 z_c39 = true := by decide +kernel
theorem z_b40 : z_bM 40 z_c40 = true := by decide +kernel
theorem z_b41 : z_bM 41 z_c41 = true := by decide +kernel
theorem z_b42 : z_bM 42 z_c42 = true := by decide +kernel
theorem z_b43 : z_bM 43 z_c43 = true := by decide +kernel
theorem z_b44 : z_bM 44 z_c44 = true := by decide +kernel
theorem z_b45 : z_bM 45 z_c45 = true := by decide +kernel
theorem z_b46 : z_bM 46 z_c46 = true := by decide +kernel
theorem z_b47 : z_bM 47 z_c47 = true := by decide +kernel
theorem z_b48 : z_bM 48 z_c48 = true := by decide +kernel
theorem z_b49 : z_bM 49 z_c49 = true := by decide +kernel
theorem z_b50 : z_bM 50 z_c50 = true := by decide +kernel
theorem z_b51 : z_bM 51 z_c51 = true := by decide +kernel
theorem z_b52 : z_bM 52 z_c52 = true := by decide +kernel
theorem z_b53 : z_bM 53 z_c53 = true := by decide +kernel
theorem z_b54 : z_bM 54 z_c54 = true := by decide +kernel
theorem z_b55 : z_bM 55 z_c55 = true := by decide +kernel
theorem z_b56 : z_bM 56 z_c56 = true := by decide +kernel
theorem z_b57 : z_bM 57 z_c57 = true := by decide +kernel
theorem z_b58 : z_bM 58 z_c58 = true := by decide +kernel
theorem z_b59 : z_bM 59 z_c59 = true := by decide +kernel
theorem z_b60 : z_bM 60 z_c60 = true := by decide +kernel
theorem z_b61 : z_bM 61 z_c61 = true := by decide +kernel
theorem z_b62 : z_bM 62 z_c62 = true := by decide +kernel
theorem z_b63 : z_bM 63 z_c63 = true := by decide +kernel
theorem z_b64 : z_bM 64 z_c64 = true := by decide +kernel
theorem z_b65 : z_bM 65 z_c65 = true := by decide +kernel
theorem z_b66 : z_bM 66 z_c66 = true := by decide +kernel
theorem z_b67 : z_bM 67 z_c67 = true := by decide +kernel
theorem z_b68 : z_bM 68 z_c68 = true := by decide +kernel
theorem z_b69 : z_bM 69 z_c69 = true := by decide +kernel
theorem z_b70 : z_bM 70 z_c70 = true := by decide +kernel
theorem z_b71 : z_bM 71 z_c71 = true := by decide +kernel
theorem z_b72 : z_bM 72 z_c72 = true := by decide +kernel
theorem z_b73 : z_bM 73 z_c73 = true := by decide +kernel
theorem z_b74 : z_bM 74 z_c74 = true := by decide +kernel
theorem z_b75 : z_bM 75 z_c75 = true := by decide +kernel
theorem z_b76 : z_bM 76 z_c76 = true := by decide +kernel
theorem z_b77 : z_bM 77 z_c77 = true := by decide +kernel
theorem z_b78 : z_bM 78 z_c78 = true := by decide +kernel
theorem z_b79 : z_bM 79 z_c79 = true := by decide +kernel
theorem z_b80 : z_bM 80 z_c80 = true := by decide +kernel
theorem z_b81 : z_bM 81 z_c81 = true := by decide +kernel
theorem z_b82 : z_bM 82 z_c82 = true := by decide +kernel
theorem z_b83 : z_bM 83 z_c83 = true := by decide +kernel
theorem z_b84 : z_bM 84 z_c84 = true := by decide +kernel
theorem z_b85 : z_bM 85 z_c85 = true := by decide +kernel
theorem z_b86 : z_bM 86 z_c86 = true := by decide +kernel
theorem z_b87 : z_bM 87 z_c87 = true := by decide +kernel
theorem z_b88 : z_bM 88 z_c88 = true := by decide +kernel
theorem z_b89 : z_bM 89 z_c89 = true := by decide +kernel
theorem z_b90 : z_bM 90 z_c90 = true := by decide +kernel
theorem z_b91 : z_bM 91 z_c91 = true := by decide +kernel
theorem z_b92 : z_bM 92 z_c92 = true := by decide +kernel
theorem z_b93 : z_bM 93 z_c93 = true := by decide +kernel
theorem z_b94 : z_bM 94 z_c94 = true := by decide +kernel
theorem z_b95 : z_bM 95 z_c95 = true := by decide +kernel
theorem z_b96 : z_bM 96 z_c96 = true := by decide +kernel
theorem z_b97 : z_bM 97 z_c97 = true := by decide +kernel
theorem z_b98 : z_bM 98 z_c98 = true := by decide +kernel
theorem z_b99 : z_bM 99 z_c99 = true := by decide +kernel
theorem z_b100 : z_bM 100 z_c100 = true := by decide +kernel
theorem z_b101 : z_bM 101 z_c101 = true := by decide +kernel
theorem z_b102 : z_bM 102 z_c102 = true := by decide +kernel
theorem z_b103 : z_bM 103 z_c103 = true := by decide +kernel
theorem z_b104 : z_bM 104 z_c104 = true := by decide +kernel
theorem z_b105 : z_bM 105 z_c105 = true := by decide +kernel
theorem z_b106 : z_bM 106 z_c106 = true := by decide +kernel
theorem z_b107 : z_bM 107 z_c107 = true := by decide +kernel
theorem z_b108 : z_bM 108 z_c108 = true := by decide +kernel
theorem z_b109 : z_bM 109 z_c109 = true := by decide +kernel
theorem z_b110 : z_bM 110 z_c110 = true := by decide +kernel
theorem z_b111 : z_bM 111 z_c111 = true := by decide +kernel
theorem z_b112 : z_bM 112 z_c112 = true := by decide +kernel
theorem z_b113 : z_bM 113 z_c113 = true := by decide +kernel
theorem z_b114 : z_bM 114 z_c114 = true := by decide +kernel
theorem z_b115 : z_bM 115 z_c115 = true := by decide +kernel
theorem z_b116 : z_bM 116 z_c116 = true := by decide +kernel
theorem z_b117 : z_bM 117 z_c117 = true := by decide +kernel
theorem z_b118 : z_bM 118 z_c118 = true := by decide +kernel
theorem z_b119 : z_bM 119 z_c119 = true := by decide +kernel
theorem z_b120 : z_bM 120 z_c120 = true := by decide +kernel
theorem z_b121 : z_bM 121 z_c121 = true := by decide +kernel
theorem z_b122 : z_bM 122 z_c122 = true := by decide +kernel
theorem z_b123 : z_bM 123 z_c123 = true := by decide +kernel
theorem z_b124 : z_bM 124 z_c124 = true := by decide +kernel
theorem z_b125 : z_bM 125 z_c125 = true := by decide +kernel
theorem z_b126 : z_bM 126 z_c126 = true := by decide +kernel
theorem z_b127 : z_bM 127 z_c127 = true := by decide +kernel
theorem z_b128 : z_bM 128 z_c128 = true := by decide +kernel
theorem z_b129 : z_bM 129 z_c129 = true := by decide +kernel
theorem z_b130 : z_bM 130 z_c130 = true := by decide +kernel
theorem z_b131 : z_bM 131 z_c131 = true := by decide +kernel
theorem z_b132 : z_bM 132 z_c132 = true := by decide +kernel
theorem z_b133 : z_bM 133 z_c133 = true := by decide +kernel
theorem z_b134 : z_bM 134 z_c134 = true := by decide +kernel
theorem z_b135 : z_bM 135 z_c135 = true := by decide +kernel
theorem z_b136 : z_bM 136 z_c136 = true := by decide +kernel
theorem z_b137 : z_bM 137 z_c137 = true := by decide +kernel
theorem z_b138 : z_bM 138 z_c138 = true := by decide +kernel
theorem z_b139 : z_bM 139 z_c139 = true := by decide +kernel
theorem z_b140 : z_bM 140 z_c140 = true := by decide +kernel
theorem z_b141 : z_bM 141 z_c141 = true := by decide +kernel
theorem z_b142 : z_bM 142 z_c142 = true := by decide +kernel
theorem z_b143 : z_bM 143 z_c143 = true := by decide +kernel
theorem z_b144 : z_bM 144 z_c144 = true := by decide +kernel
theorem z_b145 : z_bM 145 z_c145 = true := by decide +kernel
theorem z_b146 : z_bM 146 z_c146 = true := by decide +kernel
theorem z_b147 : z_bM 147 z_c147 = true := by decide +kernel
theorem z_b148 : z_bM 148 z_c148 = true := by decide +kernel
theorem z_b149 : z_bM 149 z_c149 = true := by decide +kernel
theorem z_b150 : z_bM 150 z_c150 = true := by decide +kernel
theorem z_b151 : z_bM 151 z_c151 = true := by decide +kernel
theorem z_b152 : z_bM 152 z_c152 = true := by decide +kernel
theorem z_b153 : z_bM 153 z_c153 = true := by decide +kernel
theorem z_b154 : z_bM 154 z_c154 = true := by decide +kernel
theorem z_b155 : z_bM 155 z_c155 = true := by decide +kernel
theorem z_b156 : z_bM 156 z_c156 = true := by decide +kernel
theorem z_b157 : z_bM 157 z_c157 = true := by decide +kernel
theorem z_b158 : z_bM 158 z_c158 = true := by decide +kernel
theorem z_b159 : z_bM 159 z_c159 = true := by decide +kernel
theorem z_b160 : z_bM 160 z_c160 = true := by decide +kernel
theorem z_b161 : z_bM 161 z_c161 = true := by decide +kernel
theorem z_b162 : z_bM 162 z_c162 = true := by decide +kernel
theorem z_b163 : z_bM 163 z_c163 = true := by decide +kernel
theorem z_b164 : z_bM 164 z_c164 = true := by decide +kernel
theorem z_b165 : z_bM 165 z_c165 = true := by decide +kernel
theorem z_b166 : z_bM 166 z_c166 = true := by decide +kernel
theorem z_b167 : z_bM 167 z_c167 = true := by decide +kernel
theorem z_b168 : z_bM 168 z_c168 = true := by decide +kernel
theorem z_b169 : z_bM 169 z_c169 = true := by decide +kernel
theorem z_b170 : z_bM 170 z_c170 = true := by decide +kernel
theorem z_b171 : z_bM 171 z_c171 = true := by decide +kernel
theorem z_b172 : z_bM 172 z_c172 = true := by decide +kernel
theorem z_b173 : z_bM 173 z_c173 = true := by decide +kernel
theorem z_b174 : z_bM 174 z_c174 = true := by decide +kernel
theorem z_b175 : z_bM 175 z_c175 = true := by decide +kernel
theorem z_b176 : z_bM 176 z_c176 = true := by decide +kernel
theorem z_b177 : z_bM 177 z_c177 = true := by decide +kernel
theorem z_b178 : z_bM 178 z_c178 = true := by decide +kernel
theorem z_b179 : z_bM 179 z_c179 = true := by decide +kernel
theorem z_b180 : z_bM 180 z_c180 = true := by decide +kernel
theorem z_b181 : z_bM 181 z_c181 = true := by decide +kernel
theorem z_b182 : z_bM 182 z_c182 = true := by decide +kernel
theorem z_b183 : z_bM 183 z_c183 = true := by decide +kernel
theorem z_b184 : z_bM 184 z_c184 = true := by decide +kernel
theorem z_b185 : z_bM 185 z_c185 = true := by decide +kernel
theorem z_b186 : z_bM 186 z_c186 = true := by decide +kernel
theorem z_b187 : z_bM 187 z_c187 = true := by decide +kernel
theorem z_b188 : z_bM 188 z_c188 = true := by decide +kernel
theorem z_b189 : z_bM 189 z_c189 = true := by decide +kernel
theorem z_b190 : z_bM 190 z_c190 = true := by decide +kernel
theorem z_b191 : z_bM 191 z_c191 = true := by decide +kernel
theorem z_b192 : z_bM 192 z_c192 = true := by decide +kernel
theorem z_b193 : z_bM 193 z_c193 = true := by decide +kernel
theorem z_b194 : z_bM 194 z_c194 = true := by decide +kernel
theorem z_b195 : z_bM 195 z_c195 = true := by decide +kernel
theorem z_b196 : z_bM 196 z_c196 = true := by decide +kernel
theorem z_b197 : z_bM 197 z_c197 = true := by decide +kernel
theorem z_b198 : z_bM 198 z_c198 = true := by decide +kernel
theorem z_b199 : z_bM 199 z_c199 = true := by decide +kernel
theorem z_b200 : z_bM 200 z_c200 = true := by decide +kernel
theorem z_b201 : z_bM 201 z_c201 = true := by decide +kernel
theorem z_b202 : z_bM 202 z_c202 = true := by decide +kernel
theorem z_b203 : z_bM 203 z_c203 = true := by decide +kernel
theorem z_b204 : z_bM 204 z_c204 = true := by decide +kernel
theorem z_b205 : z_bM 205 z_c205 = true := by decide +kernel
theorem z_b206 : z_bM 206 z_c206 = true := by decide +kernel
theorem z_b207 : z_bM 207 z_c207 = true := by decide +kernel
theorem z_b208 : z_bM 208 z_c208 = true := by decide +kernel
theorem z_b209 : z_bM 209 z_c209 = true := by decide +kernel
theorem z_b210 : z_bM 210 z_c210 = true := by decide +kernel
theorem z_b211 : z_bM 211 z_c211 = true := by decide +kernel
theorem z_b212 : z_bM 212 z_c212 = true := by decide +kernel
theorem z_b213 : z_bM 213 z_c213 = true := by decide +kernel
theorem z_b214 : z_bM 214 z_c214 = true := by decide +kernel
theorem z_b215 : z_bM 215 z_c215 = true := by decide +kernel
theorem z_b216 : z_bM 216 z_c216 = true := by decide +kernel
theorem z_b217 : z_bM 217 z_c217 = true := by decide +kernel
theorem z_b218 : z_bM 218 z_c218 = true := by decide +kernel
theorem z_b219 : z_bM 219 z_c219 = true := by decide +kernel
theorem z_b220 : z_bM 220 z_c220 = true := by decide +kernel
theorem z_b221 : z_bM 221 z_c221 = true := by decide +kernel
theorem z_b222 : z_bM 222 z_c222 = true := by decide +kernel
theorem z_b223 : z_bM 223 z_c223 = true := by decide +kernel
theorem z_b224 : z_bM 224 z_c224 = true := by decide +kernel
theorem z_b225 : z_bM 225 z_c225 = true := by decide +kernel
theorem z_b226 : z_bM 226 z_c226 = true := by decide +kernel
theorem z_b227 : z_bM 227 z_c227 = true := by decide +kernel
theorem z_b228 : z_bM 228 z_c228 = true := by decide +kernel
theorem z_b229 : z_bM 229 z_c229 = true := by decide +kernel
theorem z_b230 : z_bM 230 z_c230 = true := by decide +kernel
theorem z_b231 : z_bM 231 z_c231 = true := by decide +kernel
theorem z_b232 : z_bM 232 z_c232 = true := by decide +kernel
theorem z_b233 : z_bM 233 z_c233 = true := by decide +kernel
theorem z_b234 : z_bM 234 z_c234 = true := by decide +kernel
theorem z_b235 : z_bM 235 z_c235 = true := by decide +kernel
theorem z_b236 : z_bM 236 z_c236 = true := by decide +kernel
theorem z_b237 : z_bM 237 z_c237 = true := by decide +kernel
theorem z_b238 : z_bM 238 z_c238 = true := by decide +kernel
theorem z_b239 : z_bM 239 z_c239 = true := by decide +kernel
theorem z_b240 : z_bM 240 z_c240 = true := by decide +kernel
theorem z_b241 : z_bM 241 z_c241 = true := by decide +kernel
theorem z_b242 : z_bM 242 z_c242 = true := by decide +kernel
theorem z_b243 : z_bM 243 z_c243 = true := by decide +kernel
theorem z_b244 : z_bM 244 z_c244 = true := by decide +kernel
theorem z_b245 : z_bM 245 z_c245 = true := by decide +kernel
theorem z_b246 : z_bM 246 z_c246 = true := by decide +kernel
theorem z_b247 : z_bM 247 z_c247 = true := by decide +kernel
theorem z_b248 : z_bM 248 z_c248 = true := by decide +kernel
theorem z_b249 : z_bM 249 z_c249 = true := by decide +kernel
theorem z_b250 : z_bM 250 z_c250 = true := by decide +kernel
theorem z_b251 : z_bM 251 z_c251 = true := by decide +kernel
theorem z_b252 : z_bM 252 z_c252 = true := by decide +kernel
theorem z_b253 : z_bM 253 z_c253 = true := by decide +kernel
theorem z_b254 : z_bM 254 z_c254 = true := by decide +kernel
theorem z_b255 : z_bM 255 z_c255 = true := by decide +kernel
theorem z_b256 : z_bM 256 z_c256 = true := by decide +kernel
theorem z_b257 : z_bM 257 z_c257 = true := by decide +kernel
theorem z_b258 : z_bM 258 z_c258 = true := by decide +kernel
theorem z_b259 : z_bM 259 z_c259 = true := by decide +kernel
theorem z_b260 : z_bM 260 z_c260 = true := by decide +kernel
theorem z_b261 : z_bM 261 z_c261 = true := by decide +kernel
theorem z_b262 : z_bM 262 z_c262 = true := by decide +kernel
theorem z_b263 : z_bM 263 z_c263 = true := by decide +kernel
theorem z_b264 : z_bM 264 z_c264 = true := by decide +kernel
theorem z_b265 : z_bM 265 z_c265 = true := by decide +kernel
theorem z_b266 : z_bM 266 z_c266 = true := by decide +kernel
theorem z_b267 : z_bM 267 z_c267 = true := by decide +kernel
theorem z_b268 : z_bM 268 z_c268 = true := by decide +kernel
theorem z_b269 : z_bM 269 z_c269 = true := by decide +kernel
theorem z_b270 : z_bM 270 z_c270 = true := by decide +kernel
theorem z_b271 : z_bM 271 z_c271 = true := by decide +kernel
theorem z_b272 : z_bM 272 z_c272 = true := by decide +kernel
theorem z_b273 : z_bM 273 z_c273 = true := by decide +kernel
theorem z_b274 : z_bM 274 z_c274 = true := by decide +kernel
theorem z_b275 : z_bM 275 z_c275 = true := by decide +kernel
theorem z_b276 : z_bM 276 z_c276 = true := by decide +kernel
theorem z_b277 : z_bM 277 z_c277 = true := by decide +kernel
theorem z_b278 : z_bM 278 z_c278 = true := by decide +kernel
theorem z_b279 : z_bM 279 z_c279 = true := by decide +kernel
theorem z_b280 : z_bM 280 z_c280 = true := by decide +kernel
theorem z_b281 : z_bM 281 z_c281 = true := by decide +kernel
theorem z_b282 : z_bM 282 z_c282 = true := by decide +kernel
