/-! methods: X12_makeIt, X12_make, X12_line -/
theorem dX12_makeIt_0 : decode cX12_makeIt 0 = .ok (.aload_n 0, 1) := by decide +kernel
theorem dX12_makeIt_1 : decode cX12_makeIt 1 = .ok (.iconst 0, 1) := by decide +kernel
theorem dX12_makeIt_2 : decode cX12_makeIt 2 = .ok (.putfield 764, 3) := by decide +kernel
theorem dX12_makeIt_5 : decode cX12_makeIt 5 = .ok (.aload_n 0, 1) := by decide +kernel
theorem dX12_makeIt_6 : decode cX12_makeIt 6 = .ok (.iconst 0, 1) := by decide +kernel
theorem dX12_makeIt_7 : decode cX12_makeIt 7 = .ok (.putfield 409, 3) := by decide +kernel
theorem dX12_makeIt_10 : decode cX12_makeIt 10 = .ok (.aload_n 0, 1) := by decide +kernel
theorem dX12_makeIt_11 : decode cX12_makeIt 11 = .ok (.iconst 0, 1) := by decide +kernel
theorem dX12_makeIt_12 : decode cX12_makeIt 12 = .ok (.putfield 505, 3) := by decide +kernel
theorem dX12_makeIt_15 : decode cX12_makeIt 15 = .ok (.aload_n 0, 1) := by decide +kernel
theorem dX12_makeIt_16 : decode cX12_makeIt 16 = .ok (.iconst 0, 1) := by decide +kernel
theorem dX12_makeIt_17 : decode cX12_makeIt 17 = .ok (.putfield 807, 3) := by decide +kernel
theorem dX12_makeIt_20 : decode cX12_makeIt 20 = .ok (.aload_n 0, 1) := by decide +kernel
theorem dX12_makeIt_21 : decode cX12_makeIt 21 = .ok (.iload_n 1, 1) := by decide +kernel
theorem dX12_makeIt_22 : decode cX12_makeIt 22 = .ok (.iconst 0, 1) := by decide +kernel
theorem dX12_makeIt_23 : decode cX12_makeIt 23 = .ok (.invokevirtual 810, 3) := by decide +kernel
theorem dX12_makeIt_26 : decode cX12_makeIt 26 = .ok (.aload_n 0, 1) := by decide +kernel
theorem dX12_makeIt_27 : decode cX12_makeIt 27 = .ok (.getfield 164, 3) := by decide +kernel
theorem dX12_makeIt_30 : decode cX12_makeIt 30 = .ok (.iconst 0, 1) := by decide +kernel
theorem dX12_makeIt_31 : decode cX12_makeIt 31 = .ok (.iaload, 1) := by decide +kernel
theorem dX12_makeIt_32 : decode cX12_makeIt 32 = .ok (.istore_n 2, 1) := by decide +kernel
theorem dX12_makeIt_33 : decode cX12_makeIt 33 = .ok (.iconst 0, 1) := by decide +kernel
theorem dX12_makeIt_34 : decode cX12_makeIt 34 = .ok (.istore_n 3, 1) := by decide +kernel
theorem dX12_makeIt_35 : decode cX12_makeIt 35 = .ok (.iload_n 3, 1) := by decide +kernel
theorem dX12_makeIt_36 : decode cX12_makeIt 36 = .ok (.aload_n 0, 1) := by decide +kernel
theorem dX12_makeIt_37 : decode cX12_makeIt 37 = .ok (.getfield 146, 3) := by decide +kernel
theorem dX12_makeIt_40 : decode cX12_makeIt 40 = .ok (.iconst 0, 1) := by decide +kernel
theorem dX12_makeIt_41 : decode cX12_makeIt 41 = .ok (.iaload, 1) := by decide +kernel
theorem dX12_makeIt_42 : decode cX12_makeIt 42 = .ok (.if_icmp .ge 98, 3) := by decide +kernel
theorem dX12_makeIt_45 : decode cX12_makeIt 45 = .ok (.aload_n 0, 1) := by decide +kernel
theorem dX12_makeIt_46 : decode cX12_makeIt 46 = .ok (.getfield 409, 3) := by decide +kernel
theorem dX12_makeIt_49 : decode cX12_makeIt 49 = .ok (.ifCond .ne 91, 3) := by decide +kernel
theorem dX12_makeIt_52 : decode cX12_makeIt 52 = .ok (.aload_n 0, 1) := by decide +kernel
theorem dX12_makeIt_53 : decode cX12_makeIt 53 = .ok (.getfield 167, 3) := by decide +kernel
theorem dX12_makeIt_56 : decode cX12_makeIt 56 = .ok (.iload_n 3, 1) := by decide +kernel
theorem dX12_makeIt_57 : decode cX12_makeIt 57 = .ok (.aload_n 0, 1) := by decide +kernel
theorem dX12_makeIt_58 : decode cX12_makeIt 58 = .ok (.getfield 152, 3) := by decide +kernel
theorem dX12_makeIt_61 : decode cX12_makeIt 61 = .ok (.iload_n 3, 1) := by decide +kernel
theorem dX12_makeIt_62 : decode cX12_makeIt 62 = .ok (.iaload, 1) := by decide +kernel
theorem dX12_makeIt_63 : decode cX12_makeIt 63 = .ok (.iload_n 2, 1) := by decide +kernel
theorem dX12_makeIt_64 : decode cX12_makeIt 64 = .ok (.isub, 1) := by decide +kernel
theorem dX12_makeIt_65 : decode cX12_makeIt 65 = .ok (.iastore, 1) := by decide +kernel
theorem dX12_makeIt_66 : decode cX12_makeIt 66 = .ok (.aload_n 0, 1) := by decide +kernel
theorem dX12_makeIt_67 : decode cX12_makeIt 67 = .ok (.getfield 170, 3) := by decide +kernel
theorem dX12_makeIt_70 : decode cX12_makeIt 70 = .ok (.iload_n 3, 1) := by decide +kernel
theorem dX12_makeIt_71 : decode cX12_makeIt 71 = .ok (.aload_n 0, 1) := by decide +kernel
theorem dX12_makeIt_72 : decode cX12_makeIt 72 = .ok (.getfield 155, 3) := by decide +kernel
theorem dX12_makeIt_75 : decode cX12_makeIt 75 = .ok (.iload_n 3, 1) := by decide +kernel
theorem dX12_makeIt_76 : decode cX12_makeIt 76 = .ok (.iaload, 1) := by decide +kernel
theorem dX12_makeIt_77 : decode cX12_makeIt 77 = .ok (.iastore, 1) := by decide +kernel
theorem dX12_makeIt_78 : decode cX12_makeIt 78 = .ok (.aload_n 0, 1) := by decide +kernel
theorem dX12_makeIt_79 : decode cX12_makeIt 79 = .ok (.getfield 173, 3) := by decide +kernel
theorem dX12_makeIt_82 : decode cX12_makeIt 82 = .ok (.iload_n 3, 1) := by decide +kernel
theorem dX12_makeIt_83 : decode cX12_makeIt 83 = .ok (.aload_n 0, 1) := by decide +kernel
theorem dX12_makeIt_84 : decode cX12_makeIt 84 = .ok (.getfield 158, 3) := by decide +kernel
theorem dX12_makeIt_87 : decode cX12_makeIt 87 = .ok (.iload_n 3, 1) := by decide +kernel
theorem dX12_makeIt_88 : decode cX12_makeIt 88 = .ok (.baload, 1) := by decide +kernel
theorem dX12_makeIt_89 : decode cX12_makeIt 89 = .ok (.bastore, 1) := by decide +kernel
theorem dX12_makeIt_90 : decode cX12_makeIt 90 = .ok (.aload_n 0, 1) := by decide +kernel
theorem dX12_makeIt_91 : decode cX12_makeIt 91 = .ok (.getfield 167, 3) := by decide +kernel
theorem dX12_makeIt_94 : decode cX12_makeIt 94 = .ok (.iload_n 3, 1) := by decide +kernel
theorem dX12_makeIt_95 : decode cX12_makeIt 95 = .ok (.iaload, 1) := by decide +kernel
theorem dX12_makeIt_96 : decode cX12_makeIt 96 = .ok (.i2l, 1) := by decide +kernel
theorem dX12_makeIt_97 : decode cX12_makeIt 97 = .ok (.ldc2_w 819, 3) := by decide +kernel
theorem dX12_makeIt_100 : decode cX12_makeIt 100 = .ok (.ldc2_w 821, 3) := by decide +kernel
theorem dX12_makeIt_103 : decode cX12_makeIt 103 = .ok (.invokestatic 263, 3) := by decide +kernel
theorem dX12_makeIt_106 : decode cX12_makeIt 106 = .ok (.ifCond .eq 22, 3) := by decide +kernel
theorem dX12_makeIt_109 : decode cX12_makeIt 109 = .ok (.aload_n 0, 1) := by decide +kernel
theorem dX12_makeIt_110 : decode cX12_makeIt 110 = .ok (.getfield 170, 3) := by decide +kernel
theorem dX12_makeIt_113 : decode cX12_makeIt 113 = .ok (.iload_n 3, 1) := by decide +kernel
theorem dX12_makeIt_114 : decode cX12_makeIt 114 = .ok (.iaload, 1) := by decide +kernel
theorem dX12_makeIt_115 : decode cX12_makeIt 115 = .ok (.i2l, 1) := by decide +kernel
theorem dX12_makeIt_116 : decode cX12_makeIt 116 = .ok (.ldc2_w 819, 3) := by decide +kernel
theorem dX12_makeIt_119 : decode cX12_makeIt 119 = .ok (.ldc2_w 821, 3) := by decide +kernel
theorem dX12_makeIt_122 : decode cX12_makeIt 122 = .ok (.invokestatic 263, 3) := by decide +kernel
theorem dX12_makeIt_125 : decode cX12_makeIt 125 = .ok (.ifCond .ne 9, 3) := by decide +kernel
theorem dX12_makeIt_128 : decode cX12_makeIt 128 = .ok (.aload_n 0, 1) := by decide +kernel
theorem dX12_makeIt_129 : decode cX12_makeIt 129 = .ok (.bipush 13, 2) := by decide +kernel
theorem dX12_makeIt_131 : decode cX12_makeIt 131 = .ok (.invokevirtual 795, 3) := by decide +kernel
theorem dX12_makeIt_134 : decode cX12_makeIt 134 = .ok (.iinc 3 1, 3) := by decide +kernel
theorem dX12_makeIt_137 : decode cX12_makeIt 137 = .ok (.goto (-102), 3) := by decide +kernel
theorem dX12_makeIt_140 : decode cX12_makeIt 140 = .ok (.aload_n 0, 1) := by decide +kernel
theorem dX12_makeIt_141 : decode cX12_makeIt 141 = .ok (.getfield 409, 3) := by decide +kernel
theorem dX12_makeIt_144 : decode cX12_makeIt 144 = .ok (.ifCond .le 8, 3) := by decide +kernel
theorem dX12_makeIt_147 : decode cX12_makeIt 147 = .ok (.aload_n 0, 1) := by decide +kernel
theorem dX12_makeIt_148 : decode cX12_makeIt 148 = .ok (.invokevirtual 773, 3) := by decide +kernel
theorem dX12_makeIt_151 : decode cX12_makeIt 151 = .ok (.ireturn, 1) := by decide +kernel
theorem dX12_makeIt_152 : decode cX12_makeIt 152 = .ok (.aload_n 0, 1) := by decide +kernel
theorem dX12_makeIt_153 : decode cX12_makeIt 153 = .ok (.aload_n 0, 1) := by decide +kernel
theorem dX12_makeIt_154 : decode cX12_makeIt 154 = .ok (.getfield 146, 3) := by decide +kernel
theorem dX12_makeIt_157 : decode cX12_makeIt 157 = .ok (.iconst 0, 1) := by decide +kernel
theorem dX12_makeIt_158 : decode cX12_makeIt 158 = .ok (.iaload, 1) := by decide +kernel
theorem dX12_makeIt_159 : decode cX12_makeIt 159 = .ok (.putfield 823, 3) := by decide +kernel
theorem dX12_makeIt_162 : decode cX12_makeIt 162 = .ok (.aload_n 0, 1) := by decide +kernel
theorem dX12_makeIt_163 : decode cX12_makeIt 163 = .ok (.aload_n 0, 1) := by decide +kernel
theorem dX12_makeIt_164 : decode cX12_makeIt 164 = .ok (.getfield 149, 3) := by decide +kernel
theorem dX12_makeIt_167 : decode cX12_makeIt 167 = .ok (.iconst 0, 1) := by decide +kernel
theorem dX12_makeIt_168 : decode cX12_makeIt 168 = .ok (.iaload, 1) := by decide +kernel
theorem dX12_makeIt_169 : decode cX12_makeIt 169 = .ok (.putfield 826, 3) := by decide +kernel
theorem dX12_makeIt_172 : decode cX12_makeIt 172 = .ok (.iconst 0, 1) := by decide +kernel
theorem dX12_makeIt_173 : decode cX12_makeIt 173 = .ok (.istore_n 3, 1) := by decide +kernel
theorem dX12_makeIt_174 : decode cX12_makeIt 174 = .ok (.iload_n 3, 1) := by decide +kernel
theorem dX12_makeIt_175 : decode cX12_makeIt 175 = .ok (.aload_n 0, 1) := by decide +kernel
theorem dX12_makeIt_176 : decode cX12_makeIt 176 = .ok (.getfield 826, 3) := by decide +kernel
theorem dX12_makeIt_179 : decode cX12_makeIt 179 = .ok (.if_icmp .ge 21, 3) := by decide +kernel
theorem dX12_makeIt_182 : decode cX12_makeIt 182 = .ok (.aload_n 0, 1) := by decide +kernel
theorem dX12_makeIt_183 : decode cX12_makeIt 183 = .ok (.getfield 176, 3) := by decide +kernel
theorem dX12_makeIt_186 : decode cX12_makeIt 186 = .ok (.iload_n 3, 1) := by decide +kernel
theorem dX12_makeIt_187 : decode cX12_makeIt 187 = .ok (.aload_n 0, 1) := by decide +kernel
theorem dX12_makeIt_188 : decode cX12_makeIt 188 = .ok (.getfield 161, 3) := by decide +kernel
theorem dX12_makeIt_191 : decode cX12_makeIt 191 = .ok (.iload_n 3, 1) := by decide +kernel
theorem dX12_makeIt_192 : decode cX12_makeIt 192 = .ok (.iaload, 1) := by decide +kernel
theorem dX12_makeIt_193 : decode cX12_makeIt 193 = .ok (.iastore, 1) := by decide +kernel
theorem dX12_makeIt_194 : decode cX12_makeIt 194 = .ok (.iinc 3 1, 3) := by decide +kernel
theorem dX12_makeIt_197 : decode cX12_makeIt 197 = .ok (.goto (-23), 3) := by decide +kernel
theorem dX12_makeIt_200 : decode cX12_makeIt 200 = .ok (.aload_n 0, 1) := by decide +kernel
theorem dX12_makeIt_201 : decode cX12_makeIt 201 = .ok (.aload_n 0, 1) := by decide +kernel
theorem dX12_makeIt_202 : decode cX12_makeIt 202 = .ok (.getfield 164, 3) := by decide +kernel
theorem dX12_makeIt_205 : decode cX12_makeIt 205 = .ok (.iconst 2, 1) := by decide +kernel
theorem dX12_makeIt_206 : decode cX12_makeIt 206 = .ok (.iaload, 1) := by decide +kernel
theorem dX12_makeIt_207 : decode cX12_makeIt 207 = .ok (.iload_n 2, 1) := by decide +kernel
theorem dX12_makeIt_208 : decode cX12_makeIt 208 = .ok (.isub, 1) := by decide +kernel
theorem dX12_makeIt_209 : decode cX12_makeIt 209 = .ok (.putfield 829, 3) := by decide +kernel
theorem dX12_makeIt_212 : decode cX12_makeIt 212 = .ok (.aload_n 0, 1) := by decide +kernel
theorem dX12_makeIt_213 : decode cX12_makeIt 213 = .ok (.iconst 1, 1) := by decide +kernel
theorem dX12_makeIt_214 : decode cX12_makeIt 214 = .ok (.putfield 764, 3) := by decide +kernel
theorem dX12_makeIt_217 : decode cX12_makeIt 217 = .ok (.aload_n 0, 1) := by decide +kernel
theorem dX12_makeIt_218 : decode cX12_makeIt 218 = .ok (.aload_n 0, 1) := by decide +kernel
theorem dX12_makeIt_219 : decode cX12_makeIt 219 = .ok (.getfield 505, 3) := by decide +kernel
theorem dX12_makeIt_222 : decode cX12_makeIt 222 = .ok (.putfield 756, 3) := by decide +kernel
theorem dX12_makeIt_225 : decode cX12_makeIt 225 = .ok (.aload_n 0, 1) := by decide +kernel
theorem dX12_makeIt_226 : decode cX12_makeIt 226 = .ok (.iconst 0, 1) := by decide +kernel
theorem dX12_makeIt_227 : decode cX12_makeIt 227 = .ok (.putfield 753, 3) := by decide +kernel
theorem dX12_makeIt_230 : decode cX12_makeIt 230 = .ok (.aload_n 0, 1) := by decide +kernel
theorem dX12_makeIt_231 : decode cX12_makeIt 231 = .ok (.iconst (-1), 1) := by decide +kernel
theorem dX12_makeIt_232 : decode cX12_makeIt 232 = .ok (.putfield 127, 3) := by decide +kernel
theorem dX12_makeIt_235 : decode cX12_makeIt 235 = .ok (.aload_n 0, 1) := by decide +kernel
theorem dX12_makeIt_236 : decode cX12_makeIt 236 = .ok (.getfield 823, 3) := by decide +kernel
theorem dX12_makeIt_239 : decode cX12_makeIt 239 = .ok (.ireturn, 1) := by decide +kernel
def B_X12_makeIt_134 (N : Nat) (k35 : Int32 → Int32 → sv_V → Option (Int32 × sv_V)) (l2 : Int32) (l3 : Int32) (V : sv_V) : Option (Int32 × sv_V) := sx_let (l3 + 1) (fun x1 => k35 l2 x1 V)
set_option maxRecDepth 20000 in
theorem tB_X12_makeIt_134 {g : sx_G} (hG : sx_Go g) {P : Option Value → sv_V → Prop} {r : Int32} {Vr : sv_V} (hP : P (some (.int r)) Vr) {N : Nat} {k35 : Int32 → Int32 → sv_V → Option (Int32 × sv_V)} (hk35 : ∀ (l2 : Int32) (l3 : Int32) (V : sv_V), k35 l2 l3 V = some (r, Vr) → sv_N g qX12_makeIt 47 35 [(0, .ref 146), (2, .int l2), (3, .int l3)] [] V P) {l2 : Int32} {l3 : Int32} {V : sv_V} (h : B_X12_makeIt_134 N k35 l2 l3 V = some (r, Vr)) : sv_N g qX12_makeIt 47 134 [(0, .ref 146), (2, .int l2), (3, .int l3)] [] V P := by
  unfold B_X12_makeIt_134 at h
  obtain ⟨x1, hx1⟩ : ∃ z : Int32, z = l3 + 1 := ⟨_, rfl⟩
  have h := sx_letE hx1 h
  refine sx_iinc (pc := 134) (v := x1) (lo' := [(3, .int x1), (0, .ref 146), (2, .int l2)]) dX12_makeIt_134 sx_m2 (by rw [hx1]; rfl) (by decide) rfl ?_
  refine sx_goto (pc := 137) (tgt := 35) dX12_makeIt_137 (by decide) ?_
  refine sx_wk (sx_s1 sx_m1 (sx_s1 sx_m2 (sx_s1 sx_m0 sx_s0))) ?_
  exact hk35 _ _ _ h
def B_X12_makeIt_128 (N : Nat) (k35 : Int32 → Int32 → sv_V → Option (Int32 × sv_V)) (l2 : Int32) (l3 : Int32) (V : sv_V) : Option (Int32 × sv_V) := (F_X12_failOutside (13 : Int32) V).bind (fun V2 => B_X12_makeIt_134 N k35 l2 l3 V2)
set_option maxRecDepth 20000 in
theorem tB_X12_makeIt_128 {g : sx_G} (hG : sx_Go g) {P : Option Value → sv_V → Prop} {r : Int32} {Vr : sv_V} (hP : P (some (.int r)) Vr) {N : Nat} {k35 : Int32 → Int32 → sv_V → Option (Int32 × sv_V)} (hk35 : ∀ (l2 : Int32) (l3 : Int32) (V : sv_V), k35 l2 l3 V = some (r, Vr) → sv_N g qX12_makeIt 47 35 [(0, .ref 146), (2, .int l2), (3, .int l3)] [] V P) {l2 : Int32} {l3 : Int32} {V : sv_V} (h : B_X12_makeIt_128 N k35 l2 l3 V = some (r, Vr)) : sv_N g qX12_makeIt 47 128 [(0, .ref 146), (2, .int l2), (3, .int l3)] [] V P := by
  unfold B_X12_makeIt_128 at h
  refine sx_aload_n (pc := 128) dX12_makeIt_128 sx_m0 ?_
  refine sx_bipush (pc := 129) (v := 13) dX12_makeIt_129 (by decide) ?_
  obtain ⟨V2, g3, h⟩ := sx_bnd h
  refine sv_cV (pc := 131) (y := qX12_failOutside) (o := none) (as := [.int (13 : Int32)]) (V1 := V2) hG dX12_makeIt_131 l_X12_795 y0X12_failOutside yvX12_failOutside rfl (Nat.le_of_ble_eq_true rfl) lay_146 kr_12 (by decide) (Nat.le_of_ble_eq_true rfl) rfl rfl rfl (t_X12_failOutside hG ⟨rfl, rfl⟩ g3) ?_
  refine sx_wk (sx_s1 sx_m0 (sx_s1 sx_m1 (sx_s1 sx_m2 sx_s0))) ?_
  exact tB_X12_makeIt_134 hG hP hk35 h
def B_X12_makeIt_174 (N : Nat) (k174 : Int32 → Int32 → sv_V → Option (Int32 × sv_V)) (l2 : Int32) (l3 : Int32) (V : sv_V) : Option (Int32 × sv_V) := if (V.1 146 129) ≤ l3 then (sx_let (sv_I V 146 134 ((V.1 196 (2 : Int32).toNatClampNeg) - l2)) (fun V5 => sx_let (sv_I V5 146 108 (1 : Int32)) (fun V6 => sx_let (sv_I V6 146 109 (V6.1 146 58)) (fun V7 => sx_let (sv_I V7 146 111 (0 : Int32)) (fun V8 => sx_let (sv_I V8 146 112 (-1 : Int32)) (fun V9 => some (V9.1 146 128, V9))))))) else (if sx_in l3 120 = true then if sx_in l3 20 = true then sx_let (sv_I V 200 l3.toNatClampNeg (V.1 195 l3.toNatClampNeg)) (fun V12 => sx_let (l3 + 1) (fun x13 => k174 l2 x13 V12)) else none else none)
set_option maxRecDepth 20000 in
theorem tB_X12_makeIt_174 {g : sx_G} (hG : sx_Go g) {P : Option Value → sv_V → Prop} {r : Int32} {Vr : sv_V} (hP : P (some (.int r)) Vr) {N : Nat} {k174 : Int32 → Int32 → sv_V → Option (Int32 × sv_V)} (hk174 : ∀ (l2 : Int32) (l3 : Int32) (V : sv_V), k174 l2 l3 V = some (r, Vr) → sv_N g qX12_makeIt 47 174 [(0, .ref 146), (2, .int l2), (3, .int l3)] [] V P) {l2 : Int32} {l3 : Int32} {V : sv_V} (h : B_X12_makeIt_174 N k174 l2 l3 V = some (r, Vr)) : sv_N g qX12_makeIt 47 174 [(0, .ref 146), (2, .int l2), (3, .int l3)] [] V P := by
  unfold B_X12_makeIt_174 at h
  refine sx_iload_n (pc := 174) dX12_makeIt_174 sx_m2 ?_
  refine sx_aload_n (pc := 175) dX12_makeIt_175 sx_m0 ?_
  refine sv_getI (pc := 176) hG dX12_makeIt_176 f_12_826 lay_146 rfl ?_
  refine sx_icmp_ge (pc := 179) (tgt := 200) dX12_makeIt_179 (by decide) (fun c4 => ?_) (fun c4 => ?_)
  · have h := sx_pos c4 h
    refine sx_aload_n (pc := 200) dX12_makeIt_200 sx_m0 ?_
    refine sx_aload_n (pc := 201) dX12_makeIt_201 sx_m0 ?_
    refine sv_getA (pc := 202) hG dX12_makeIt_202 f_12_164 lay_146 rfl cr_146_124 ?_
    refine sx_iconst (pc := 205) (v := 2) dX12_makeIt_205 (by decide) ?_
    refine sv_iald (pc := 206) hG dX12_makeIt_206 lay_196 (by decide) ?_
    refine sx_iload_n (pc := 207) dX12_makeIt_207 sx_m1 ?_
    refine sx_isub (pc := 208) dX12_makeIt_208 ?_
    obtain ⟨V5, hV5⟩ : ∃ z : sv_V, z = sv_I V 146 134 ((V.1 196 (2 : Int32).toNatClampNeg) - l2) := ⟨_, rfl⟩
    have h := sx_letE hV5 h
    refine sv_putI (pc := 209) hG dX12_makeIt_209 f_12_829 lay_146 rfl hV5 ?_
    refine sx_aload_n (pc := 212) dX12_makeIt_212 sx_m0 ?_
    refine sx_iconst (pc := 213) (v := 1) dX12_makeIt_213 (by decide) ?_
    obtain ⟨V6, hV6⟩ : ∃ z : sv_V, z = sv_I V5 146 108 (1 : Int32) := ⟨_, rfl⟩
    have h := sx_letE hV6 h
    refine sv_putZ (pc := 214) hG dX12_makeIt_214 f_12_764 lay_146 rfl rfl hV6 ?_
    refine sx_aload_n (pc := 217) dX12_makeIt_217 sx_m0 ?_
    refine sx_aload_n (pc := 218) dX12_makeIt_218 sx_m0 ?_
    refine sv_getI (pc := 219) hG dX12_makeIt_219 f_12_505 lay_146 rfl ?_
    obtain ⟨V7, hV7⟩ : ∃ z : sv_V, z = sv_I V6 146 109 (V6.1 146 58) := ⟨_, rfl⟩
    have h := sx_letE hV7 h
    refine sv_putI (pc := 222) hG dX12_makeIt_222 f_12_756 lay_146 rfl hV7 ?_
    refine sx_aload_n (pc := 225) dX12_makeIt_225 sx_m0 ?_
    refine sx_iconst (pc := 226) (v := 0) dX12_makeIt_226 (by decide) ?_
    obtain ⟨V8, hV8⟩ : ∃ z : sv_V, z = sv_I V7 146 111 (0 : Int32) := ⟨_, rfl⟩
    have h := sx_letE hV8 h
    refine sv_putI (pc := 227) hG dX12_makeIt_227 f_12_753 lay_146 rfl hV8 ?_
    refine sx_aload_n (pc := 230) dX12_makeIt_230 sx_m0 ?_
    refine sx_iconst (pc := 231) (v := (-1)) dX12_makeIt_231 (by decide) ?_
    obtain ⟨V9, hV9⟩ : ∃ z : sv_V, z = sv_I V8 146 112 (-1 : Int32) := ⟨_, rfl⟩
    have h := sx_letE hV9 h
    refine sv_putI (pc := 232) hG dX12_makeIt_232 f_12_127 lay_146 rfl hV9 ?_
    refine sx_aload_n (pc := 235) dX12_makeIt_235 sx_m0 ?_
    refine sv_getI (pc := 236) hG dX12_makeIt_236 f_12_823 lay_146 rfl ?_
    exact sv_iret (pc := 239) dX12_makeIt_239 rfl h hP
  · have h := sx_neg c4 h
    refine sx_aload_n (pc := 182) dX12_makeIt_182 sx_m0 ?_
    refine sv_getA (pc := 183) hG dX12_makeIt_183 f_12_176 lay_146 rfl cr_146_133 ?_
    refine sx_iload_n (pc := 186) dX12_makeIt_186 sx_m2 ?_
    refine sx_aload_n (pc := 187) dX12_makeIt_187 sx_m0 ?_
    refine sv_getA (pc := 188) hG dX12_makeIt_188 f_12_161 lay_146 rfl cr_146_123 ?_
    refine sx_iload_n (pc := 191) dX12_makeIt_191 sx_m2 ?_
    obtain ⟨g10, h⟩ := sx_grd h
    refine sv_iald (pc := 192) hG dX12_makeIt_192 lay_195 g10 ?_
    obtain ⟨g11, h⟩ := sx_grd h
    obtain ⟨V12, hV12⟩ : ∃ z : sv_V, z = sv_I V 200 l3.toNatClampNeg (V.1 195 l3.toNatClampNeg) := ⟨_, rfl⟩
    have h := sx_letE hV12 h
    refine sv_iast (pc := 193) hG dX12_makeIt_193 lay_200 g11 hV12 ?_
    obtain ⟨x13, hx13⟩ : ∃ z : Int32, z = l3 + 1 := ⟨_, rfl⟩
    have h := sx_letE hx13 h
    refine sx_iinc (pc := 194) (v := x13) (lo' := [(3, .int x13), (0, .ref 146), (2, .int l2)]) dX12_makeIt_194 sx_m2 (by rw [hx13]; rfl) (by decide) rfl ?_
    refine sx_goto (pc := 197) (tgt := 174) dX12_makeIt_197 (by decide) ?_
    refine sx_wk (sx_s1 sx_m1 (sx_s1 sx_m2 (sx_s1 sx_m0 sx_s0))) ?_
    exact hk174 _ _ _ h
theorem tL_X12_makeIt_174 {g : sx_G} (hG : sx_Go g) {P : Option Value → sv_V → Prop} {r : Int32} {Vr : sv_V} (hP : P (some (.int r)) Vr) {N : Nat}   : ∀ (n : Nat) (l2 : Int32) (l3 : Int32) (V : sv_V), sx_lp3 (B_X12_makeIt_174 N ) n l2 l3 V = some (r, Vr) → sv_N g qX12_makeIt 47 174 [(0, .ref 146), (2, .int l2), (3, .int l3)] [] V P :=
  sx_lp3_ind (fun k0 ih _ _ V h => tB_X12_makeIt_174 hG hP ih h)
def B_X12_makeIt_140 (N : Nat)  (l2 : Int32) (V : sv_V) : Option (Int32 × sv_V) := if (V.1 146 59) ≤ 0 then (sx_let (sv_I V 146 128 (V.1 190 (0 : Int32).toNatClampNeg)) (fun V15 => sx_let (sv_I V15 146 129 (V15.1 191 (0 : Int32).toNatClampNeg)) (fun V16 => sx_lp3 (B_X12_makeIt_174 N ) N l2 (0 : Int32) V16))) else ((F_X12_failedNow  V).bind (fun (x19, V17) => some (x19, V17)))
set_option maxRecDepth 20000 in
theorem tB_X12_makeIt_140 {g : sx_G} (hG : sx_Go g) {P : Option Value → sv_V → Prop} {r : Int32} {Vr : sv_V} (hP : P (some (.int r)) Vr) {N : Nat}   {l2 : Int32} {V : sv_V} (h : B_X12_makeIt_140 N  l2 V = some (r, Vr)) : sv_N g qX12_makeIt 47 140 [(0, .ref 146), (2, .int l2)] [] V P := by
  unfold B_X12_makeIt_140 at h
  refine sx_aload_n (pc := 140) dX12_makeIt_140 sx_m0 ?_
  refine sv_getI (pc := 141) hG dX12_makeIt_141 f_12_409 lay_146 rfl ?_
  refine sx_if_le (pc := 144) (tgt := 152) dX12_makeIt_144 (by decide) (fun c14 => ?_) (fun c14 => ?_)
  · have h := sx_pos c14 h
    refine sx_aload_n (pc := 152) dX12_makeIt_152 sx_m0 ?_
    refine sx_aload_n (pc := 153) dX12_makeIt_153 sx_m0 ?_
    refine sv_getA (pc := 154) hG dX12_makeIt_154 f_12_146 lay_146 rfl cr_146_118 ?_
    refine sx_iconst (pc := 157) (v := 0) dX12_makeIt_157 (by decide) ?_
    refine sv_iald (pc := 158) hG dX12_makeIt_158 lay_190 (by decide) ?_
    obtain ⟨V15, hV15⟩ : ∃ z : sv_V, z = sv_I V 146 128 (V.1 190 (0 : Int32).toNatClampNeg) := ⟨_, rfl⟩
    have h := sx_letE hV15 h
    refine sv_putI (pc := 159) hG dX12_makeIt_159 f_12_823 lay_146 rfl hV15 ?_
    refine sx_aload_n (pc := 162) dX12_makeIt_162 sx_m0 ?_
    refine sx_aload_n (pc := 163) dX12_makeIt_163 sx_m0 ?_
    refine sv_getA (pc := 164) hG dX12_makeIt_164 f_12_149 lay_146 rfl cr_146_119 ?_
    refine sx_iconst (pc := 167) (v := 0) dX12_makeIt_167 (by decide) ?_
    refine sv_iald (pc := 168) hG dX12_makeIt_168 lay_191 (by decide) ?_
    obtain ⟨V16, hV16⟩ : ∃ z : sv_V, z = sv_I V15 146 129 (V15.1 191 (0 : Int32).toNatClampNeg) := ⟨_, rfl⟩
    have h := sx_letE hV16 h
    refine sv_putI (pc := 169) hG dX12_makeIt_169 f_12_826 lay_146 rfl hV16 ?_
    refine sx_iconst (pc := 172) (v := 0) dX12_makeIt_172 (by decide) ?_
    refine sx_istore_n (pc := 173) (lo' := [(3, .int (0 : Int32)), (0, .ref 146), (2, .int l2)]) dX12_makeIt_173 (by decide) rfl ?_
    refine sx_wk (sx_s1 sx_m1 (sx_s1 sx_m2 (sx_s1 sx_m0 sx_s0))) ?_
    exact tL_X12_makeIt_174 hG hP  N _ _ _ h
  · have h := sx_neg c14 h
    refine sx_aload_n (pc := 147) dX12_makeIt_147 sx_m0 ?_
    obtain ⟨⟨x19, V17⟩, g18, h⟩ := sx_bnd h
    refine sv_cV (pc := 148) (y := qX12_failedNow) (o := (some (.int x19))) (as := []) (V1 := V17) hG dX12_makeIt_148 l_X12_773 y0X12_failedNow yvX12_failedNow rfl (Nat.le_of_ble_eq_true rfl) lay_146 kr_12 (by decide) (Nat.le_of_ble_eq_true rfl) rfl rfl rfl (t_X12_failedNow hG ⟨rfl, rfl⟩ g18) ?_
    exact sv_iret (pc := 151) dX12_makeIt_151 rfl h hP
def B_X12_makeIt_35 (N : Nat) (k35 : Int32 → Int32 → sv_V → Option (Int32 × sv_V)) (l2 : Int32) (l3 : Int32) (V : sv_V) : Option (Int32 × sv_V) := if (V.1 190 (0 : Int32).toNatClampNeg) ≤ l3 then (B_X12_makeIt_140 N  l2 V) else (if (V.1 146 59) = 0 then (if sx_in l3 612 = true then if sx_in l3 100 = true then sx_let (sv_I V 197 l3.toNatClampNeg ((V.1 192 l3.toNatClampNeg) - l2)) (fun V24 => if sx_in l3 612 = true then if sx_in l3 100 = true then sx_let (sv_I V24 198 l3.toNatClampNeg (V24.1 193 l3.toNatClampNeg)) (fun V27 => if sx_in l3 612 = true then if sx_in l3 100 = true then if sv_bl (V27.1 194 l3.toNatClampNeg) = true then sx_let (sv_I V27 199 l3.toNatClampNeg (V27.1 194 l3.toNatClampNeg)) (fun V31 => if sx_in l3 100 = true then (F_X12_in ((V31.1 197 l3.toNatClampNeg).toInt64) (-4096 : Int64) (4096 : Int64) V31).bind (fun (x35, V33) => if x35 = 0 then (B_X12_makeIt_128 N k35 l2 l3 V33) else (if sx_in l3 100 = true then (F_X12_in ((V33.1 198 l3.toNatClampNeg).toInt64) (-4096 : Int64) (4096 : Int64) V33).bind (fun (x40, V38) => if x40 = 0 then (B_X12_makeIt_128 N k35 l2 l3 V38) else (B_X12_makeIt_134 N k35 l2 l3 V38)) else none)) else none) else none else none else none) else none else none) else none else none) else (B_X12_makeIt_140 N  l2 V))
set_option maxRecDepth 20000 in
theorem tB_X12_makeIt_35 {g : sx_G} (hG : sx_Go g) {P : Option Value → sv_V → Prop} {r : Int32} {Vr : sv_V} (hP : P (some (.int r)) Vr) {N : Nat} {k35 : Int32 → Int32 → sv_V → Option (Int32 × sv_V)} (hk35 : ∀ (l2 : Int32) (l3 : Int32) (V : sv_V), k35 l2 l3 V = some (r, Vr) → sv_N g qX12_makeIt 47 35 [(0, .ref 146), (2, .int l2), (3, .int l3)] [] V P) {l2 : Int32} {l3 : Int32} {V : sv_V} (h : B_X12_makeIt_35 N k35 l2 l3 V = some (r, Vr)) : sv_N g qX12_makeIt 47 35 [(0, .ref 146), (2, .int l2), (3, .int l3)] [] V P := by
  unfold B_X12_makeIt_35 at h
  refine sx_iload_n (pc := 35) dX12_makeIt_35 sx_m2 ?_
  refine sx_aload_n (pc := 36) dX12_makeIt_36 sx_m0 ?_
  refine sv_getA (pc := 37) hG dX12_makeIt_37 f_12_146 lay_146 rfl cr_146_118 ?_
  refine sx_iconst (pc := 40) (v := 0) dX12_makeIt_40 (by decide) ?_
  refine sv_iald (pc := 41) hG dX12_makeIt_41 lay_190 (by decide) ?_
  refine sx_icmp_ge (pc := 42) (tgt := 140) dX12_makeIt_42 (by decide) (fun c20 => ?_) (fun c20 => ?_)
  · have h := sx_pos c20 h
    refine sx_wk (sx_s1 sx_m0 (sx_s1 sx_m1 sx_s0)) ?_
    exact tB_X12_makeIt_140 hG hP  h
  · have h := sx_neg c20 h
    refine sx_aload_n (pc := 45) dX12_makeIt_45 sx_m0 ?_
    refine sv_getI (pc := 46) hG dX12_makeIt_46 f_12_409 lay_146 rfl ?_
    refine sx_if_ne (pc := 49) (tgt := 140) dX12_makeIt_49 (by decide) (fun c21 => ?_) (fun c21 => ?_)
    · have h := sx_neg c21 h
      refine sx_wk (sx_s1 sx_m0 (sx_s1 sx_m1 sx_s0)) ?_
      exact tB_X12_makeIt_140 hG hP  h
    · have h := sx_pos c21 h
      refine sx_aload_n (pc := 52) dX12_makeIt_52 sx_m0 ?_
      refine sv_getA (pc := 53) hG dX12_makeIt_53 f_12_167 lay_146 rfl cr_146_130 ?_
      refine sx_iload_n (pc := 56) dX12_makeIt_56 sx_m2 ?_
      refine sx_aload_n (pc := 57) dX12_makeIt_57 sx_m0 ?_
      refine sv_getA (pc := 58) hG dX12_makeIt_58 f_12_152 lay_146 rfl cr_146_120 ?_
      refine sx_iload_n (pc := 61) dX12_makeIt_61 sx_m2 ?_
      obtain ⟨g22, h⟩ := sx_grd h
      refine sv_iald (pc := 62) hG dX12_makeIt_62 lay_192 g22 ?_
      refine sx_iload_n (pc := 63) dX12_makeIt_63 sx_m1 ?_
      refine sx_isub (pc := 64) dX12_makeIt_64 ?_
      obtain ⟨g23, h⟩ := sx_grd h
      obtain ⟨V24, hV24⟩ : ∃ z : sv_V, z = sv_I V 197 l3.toNatClampNeg ((V.1 192 l3.toNatClampNeg) - l2) := ⟨_, rfl⟩
      have h := sx_letE hV24 h
      refine sv_iast (pc := 65) hG dX12_makeIt_65 lay_197 g23 hV24 ?_
      refine sx_aload_n (pc := 66) dX12_makeIt_66 sx_m0 ?_
      refine sv_getA (pc := 67) hG dX12_makeIt_67 f_12_170 lay_146 rfl cr_146_131 ?_
      refine sx_iload_n (pc := 70) dX12_makeIt_70 sx_m2 ?_
      refine sx_aload_n (pc := 71) dX12_makeIt_71 sx_m0 ?_
      refine sv_getA (pc := 72) hG dX12_makeIt_72 f_12_155 lay_146 rfl cr_146_121 ?_
      refine sx_iload_n (pc := 75) dX12_makeIt_75 sx_m2 ?_
      obtain ⟨g25, h⟩ := sx_grd h
      refine sv_iald (pc := 76) hG dX12_makeIt_76 lay_193 g25 ?_
      obtain ⟨g26, h⟩ := sx_grd h
      obtain ⟨V27, hV27⟩ : ∃ z : sv_V, z = sv_I V24 198 l3.toNatClampNeg (V24.1 193 l3.toNatClampNeg) := ⟨_, rfl⟩
      have h := sx_letE hV27 h
      refine sv_iast (pc := 77) hG dX12_makeIt_77 lay_198 g26 hV27 ?_
      refine sx_aload_n (pc := 78) dX12_makeIt_78 sx_m0 ?_
      refine sv_getA (pc := 79) hG dX12_makeIt_79 f_12_173 lay_146 rfl cr_146_132 ?_
      refine sx_iload_n (pc := 82) dX12_makeIt_82 sx_m2 ?_
      refine sx_aload_n (pc := 83) dX12_makeIt_83 sx_m0 ?_
      refine sv_getA (pc := 84) hG dX12_makeIt_84 f_12_158 lay_146 rfl cr_146_122 ?_
      refine sx_iload_n (pc := 87) dX12_makeIt_87 sx_m2 ?_
      obtain ⟨g28, h⟩ := sx_grd h
      refine sv_zald (pc := 88) hG dX12_makeIt_88 lay_194 g28 ?_
      obtain ⟨g29, h⟩ := sx_grd h
      obtain ⟨g30, h⟩ := sx_grd h
      obtain ⟨V31, hV31⟩ : ∃ z : sv_V, z = sv_I V27 199 l3.toNatClampNeg (V27.1 194 l3.toNatClampNeg) := ⟨_, rfl⟩
      have h := sx_letE hV31 h
      refine sv_zast (pc := 89) hG dX12_makeIt_89 lay_199 g29 g30 hV31 ?_
      refine sx_aload_n (pc := 90) dX12_makeIt_90 sx_m0 ?_
      refine sv_getA (pc := 91) hG dX12_makeIt_91 f_12_167 lay_146 rfl cr_146_130 ?_
      refine sx_iload_n (pc := 94) dX12_makeIt_94 sx_m2 ?_
      obtain ⟨g32, h⟩ := sx_grd h
      refine sv_iald (pc := 95) hG dX12_makeIt_95 lay_197 g32 ?_
      refine sx_i2l (pc := 96) dX12_makeIt_96 ?_
      refine sx_ldc2 (pc := 97) dX12_makeIt_97 k_X12_819 ?_
      refine sx_ldc2 (pc := 100) dX12_makeIt_100 k_X12_821 ?_
      obtain ⟨⟨x35, V33⟩, g34, h⟩ := sx_bnd h
      refine sv_cS (pc := 103) (y := qX12_in) (o := (some (.int x35))) (as := [.long ((V31.1 197 l3.toNatClampNeg).toInt64), .long (-4096 : Int64), .long (4096 : Int64)]) (V1 := V33) dX12_makeIt_103 l_X12_263 y0X12_in ysX12_in rfl (Nat.le_of_ble_eq_true rfl) (by decide) (Nat.le_of_ble_eq_true rfl) rfl rfl rfl (t_X12_in hG ⟨rfl, rfl⟩ g34) ?_
      refine sx_if_eq (pc := 106) (tgt := 128) dX12_makeIt_106 (by decide) (fun c36 => ?_) (fun c36 => ?_)
      · have h := sx_pos c36 h
        refine sx_wk (sx_s1 sx_m0 (sx_s1 sx_m1 (sx_s1 sx_m2 sx_s0))) ?_
        exact tB_X12_makeIt_128 hG hP hk35 h
      · have h := sx_neg c36 h
        refine sx_aload_n (pc := 109) dX12_makeIt_109 sx_m0 ?_
        refine sv_getA (pc := 110) hG dX12_makeIt_110 f_12_170 lay_146 rfl cr_146_131 ?_
        refine sx_iload_n (pc := 113) dX12_makeIt_113 sx_m2 ?_
        obtain ⟨g37, h⟩ := sx_grd h
        refine sv_iald (pc := 114) hG dX12_makeIt_114 lay_198 g37 ?_
        refine sx_i2l (pc := 115) dX12_makeIt_115 ?_
        refine sx_ldc2 (pc := 116) dX12_makeIt_116 k_X12_819 ?_
        refine sx_ldc2 (pc := 119) dX12_makeIt_119 k_X12_821 ?_
        obtain ⟨⟨x40, V38⟩, g39, h⟩ := sx_bnd h
        refine sv_cS (pc := 122) (y := qX12_in) (o := (some (.int x40))) (as := [.long ((V33.1 198 l3.toNatClampNeg).toInt64), .long (-4096 : Int64), .long (4096 : Int64)]) (V1 := V38) dX12_makeIt_122 l_X12_263 y0X12_in ysX12_in rfl (Nat.le_of_ble_eq_true rfl) (by decide) (Nat.le_of_ble_eq_true rfl) rfl rfl rfl (t_X12_in hG ⟨rfl, rfl⟩ g39) ?_
        refine sx_if_ne (pc := 125) (tgt := 134) dX12_makeIt_125 (by decide) (fun c41 => ?_) (fun c41 => ?_)
        · have h := sx_neg c41 h
          refine sx_wk (sx_s1 sx_m0 (sx_s1 sx_m1 (sx_s1 sx_m2 sx_s0))) ?_
          exact tB_X12_makeIt_134 hG hP hk35 h
        · have h := sx_pos c41 h
          refine sx_wk (sx_s1 sx_m0 (sx_s1 sx_m1 (sx_s1 sx_m2 sx_s0))) ?_
          exact tB_X12_makeIt_128 hG hP hk35 h
theorem tL_X12_makeIt_35 {g : sx_G} (hG : sx_Go g) {P : Option Value → sv_V → Prop} {r : Int32} {Vr : sv_V} (hP : P (some (.int r)) Vr) {N : Nat}   : ∀ (n : Nat) (l2 : Int32) (l3 : Int32) (V : sv_V), sx_lp3 (B_X12_makeIt_35 N ) n l2 l3 V = some (r, Vr) → sv_N g qX12_makeIt 47 35 [(0, .ref 146), (2, .int l2), (3, .int l3)] [] V P :=
  sx_lp3_ind (fun k0 ih _ _ V h => tB_X12_makeIt_35 hG hP ih h)
def F_X12_makeIt (N : Nat) (l1 : Int32) (V : sv_V) : Option (Int32 × sv_V) := sx_let (sv_I V 146 108 (0 : Int32)) (fun V42 => sx_let (sv_I V42 146 59 (0 : Int32)) (fun V43 => sx_let (sv_I V43 146 58 (0 : Int32)) (fun V44 => sx_let (sv_I V44 146 125 (0 : Int32)) (fun V45 => (F_X12_makeGlyph N l1 (0 : Int32) V45).bind (fun V46 => sx_let (V46.1 196 (0 : Int32).toNatClampNeg) (fun x48 => sx_lp3 (B_X12_makeIt_35 N ) N x48 (0 : Int32) V46))))))
set_option maxRecDepth 20000 in
theorem t_X12_makeIt {g : sx_G} (hG : sx_Go g) {P : Option Value → sv_V → Prop} {r : Int32} {Vr : sv_V} (hP : P (some (.int r)) Vr) {N : Nat} {l1 : Int32} {V : sv_V} (h : F_X12_makeIt N l1 V = some (r, Vr)) : sv_N g qX12_makeIt 47 0 [(0, .ref 146), (1, .int l1)] [] V P := by
  unfold F_X12_makeIt at h
  refine sx_aload_n (pc := 0) dX12_makeIt_0 sx_m0 ?_
  refine sx_iconst (pc := 1) (v := 0) dX12_makeIt_1 (by decide) ?_
  obtain ⟨V42, hV42⟩ : ∃ z : sv_V, z = sv_I V 146 108 (0 : Int32) := ⟨_, rfl⟩
  have h := sx_letE hV42 h
  refine sv_putZ (pc := 2) hG dX12_makeIt_2 f_12_764 lay_146 rfl rfl hV42 ?_
  refine sx_aload_n (pc := 5) dX12_makeIt_5 sx_m0 ?_
  refine sx_iconst (pc := 6) (v := 0) dX12_makeIt_6 (by decide) ?_
  obtain ⟨V43, hV43⟩ : ∃ z : sv_V, z = sv_I V42 146 59 (0 : Int32) := ⟨_, rfl⟩
  have h := sx_letE hV43 h
  refine sv_putI (pc := 7) hG dX12_makeIt_7 f_12_409 lay_146 rfl hV43 ?_
  refine sx_aload_n (pc := 10) dX12_makeIt_10 sx_m0 ?_
  refine sx_iconst (pc := 11) (v := 0) dX12_makeIt_11 (by decide) ?_
  obtain ⟨V44, hV44⟩ : ∃ z : sv_V, z = sv_I V43 146 58 (0 : Int32) := ⟨_, rfl⟩
  have h := sx_letE hV44 h
  refine sv_putI (pc := 12) hG dX12_makeIt_12 f_12_505 lay_146 rfl hV44 ?_
  refine sx_aload_n (pc := 15) dX12_makeIt_15 sx_m0 ?_
  refine sx_iconst (pc := 16) (v := 0) dX12_makeIt_16 (by decide) ?_
  obtain ⟨V45, hV45⟩ : ∃ z : sv_V, z = sv_I V44 146 125 (0 : Int32) := ⟨_, rfl⟩
  have h := sx_letE hV45 h
  refine sv_putI (pc := 17) hG dX12_makeIt_17 f_12_807 lay_146 rfl hV45 ?_
  refine sx_aload_n (pc := 20) dX12_makeIt_20 sx_m0 ?_
  refine sx_iload_n (pc := 21) dX12_makeIt_21 sx_m1 ?_
  refine sx_iconst (pc := 22) (v := 0) dX12_makeIt_22 (by decide) ?_
  obtain ⟨V46, g47, h⟩ := sx_bnd h
  refine sv_cV (pc := 23) (y := qX12_makeGlyph) (o := none) (as := [.int l1, .int (0 : Int32)]) (V1 := V46) hG dX12_makeIt_23 l_X12_810 y0X12_makeGlyph yvX12_makeGlyph rfl (Nat.le_of_ble_eq_true rfl) lay_146 kr_12 (by decide) (Nat.le_of_ble_eq_true rfl) rfl rfl rfl (t_X12_makeGlyph hG ⟨rfl, rfl⟩ g47) ?_
  refine sx_aload_n (pc := 26) dX12_makeIt_26 sx_m0 ?_
  refine sv_getA (pc := 27) hG dX12_makeIt_27 f_12_164 lay_146 rfl cr_146_124 ?_
  refine sx_iconst (pc := 30) (v := 0) dX12_makeIt_30 (by decide) ?_
  refine sv_iald (pc := 31) hG dX12_makeIt_31 lay_196 (by decide) ?_
  refine sv_tI (fun x48 hx48 => ?_)
  have h := sx_letE hx48 h
  refine sx_istore_n (pc := 32) (lo' := [(2, .int x48), (0, .ref 146), (1, .int l1)]) dX12_makeIt_32 (by decide) rfl ?_
  refine sx_iconst (pc := 33) (v := 0) dX12_makeIt_33 (by decide) ?_
  refine sx_istore_n (pc := 34) (lo' := [(3, .int (0 : Int32)), (2, .int x48), (0, .ref 146), (1, .int l1)]) dX12_makeIt_34 (by decide) rfl ?_
  refine sx_wk (sx_s1 sx_m2 (sx_s1 sx_m1 (sx_s1 sx_m0 sx_s0))) ?_
  exact tL_X12_makeIt_35 hG hP  N _ _ _ h
theorem dX12_make_0 : decode cX12_make 0 = .ok (.aload_n 0, 1) := by decide +kernel
theorem dX12_make_1 : decode cX12_make 1 = .ok (.getfield 759, 3) := by decide +kernel
theorem dX12_make_4 : decode cX12_make 4 = .ok (.ifCond .eq 10, 3) := by decide +kernel
theorem dX12_make_7 : decode cX12_make 7 = .ok (.aload_n 0, 1) := by decide +kernel
theorem dX12_make_8 : decode cX12_make 8 = .ok (.getfield 767, 3) := by decide +kernel
theorem dX12_make_11 : decode cX12_make 11 = .ok (.ifCond .ne 6, 3) := by decide +kernel
theorem dX12_make_14 : decode cX12_make 14 = .ok (.bipush (-3), 2) := by decide +kernel
theorem dX12_make_16 : decode cX12_make 16 = .ok (.ireturn, 1) := by decide +kernel
theorem dX12_make_17 : decode cX12_make 17 = .ok (.iload_n 1, 1) := by decide +kernel
theorem dX12_make_18 : decode cX12_make 18 = .ok (.i2l, 1) := by decide +kernel
theorem dX12_make_19 : decode cX12_make 19 = .ok (.lconst 0, 1) := by decide +kernel
theorem dX12_make_20 : decode cX12_make 20 = .ok (.aload_n 0, 1) := by decide +kernel
theorem dX12_make_21 : decode cX12_make 21 = .ok (.getfield 260, 3) := by decide +kernel
theorem dX12_make_24 : decode cX12_make 24 = .ok (.iconst 1, 1) := by decide +kernel
theorem dX12_make_25 : decode cX12_make 25 = .ok (.isub, 1) := by decide +kernel
theorem dX12_make_26 : decode cX12_make 26 = .ok (.i2l, 1) := by decide +kernel
theorem dX12_make_27 : decode cX12_make 27 = .ok (.invokestatic 263, 3) := by decide +kernel
theorem dX12_make_30 : decode cX12_make 30 = .ok (.ifCond .eq 11, 3) := by decide +kernel
theorem dX12_make_33 : decode cX12_make 33 = .ok (.aload_n 0, 1) := by decide +kernel
theorem dX12_make_34 : decode cX12_make 34 = .ok (.iload_n 1, 1) := by decide +kernel
theorem dX12_make_35 : decode cX12_make 35 = .ok (.invokevirtual 832, 3) := by decide +kernel
theorem dX12_make_38 : decode cX12_make 38 = .ok (.goto 4, 3) := by decide +kernel
theorem dX12_make_41 : decode cX12_make 41 = .ok (.iconst (-1), 1) := by decide +kernel
theorem dX12_make_42 : decode cX12_make 42 = .ok (.ireturn, 1) := by decide +kernel
def F_X12_make (N : Nat) (l1 : Int32) (V : sv_V) : Option (Int32 × sv_V) := if (V.1 146 4) = 0 then (some ((-3 : Int32), V)) else (if (V.1 146 107) = 0 then (some ((-3 : Int32), V)) else ((F_X12_in l1.toInt64 (0 : Int64) (((V.1 146 12) - (1 : Int32)).toInt64) V).bind (fun (x5, V3) => if x5 = 0 then (some ((-1 : Int32), V3)) else ((F_X12_makeIt N l1 V3).bind (fun (x9, V7) => some (x9, V7))))))
set_option maxRecDepth 20000 in
theorem t_X12_make {g : sx_G} (hG : sx_Go g) {P : Option Value → sv_V → Prop} {r : Int32} {Vr : sv_V} (hP : P (some (.int r)) Vr) {N : Nat} {l1 : Int32} {V : sv_V} (h : F_X12_make N l1 V = some (r, Vr)) : sv_N g qX12_make 48 0 [(0, .ref 146), (1, .int l1)] [] V P := by
  unfold F_X12_make at h
  refine sx_aload_n (pc := 0) dX12_make_0 sx_m0 ?_
  refine sv_getZ (pc := 1) hG dX12_make_1 f_12_759 lay_146 rfl ?_
  refine sx_if_eq (pc := 4) (tgt := 14) dX12_make_4 (by decide) (fun c1 => ?_) (fun c1 => ?_)
  · have h := sx_pos c1 h
    refine sx_bipush (pc := 14) (v := (-3)) dX12_make_14 (by decide) ?_
    exact sv_iret (pc := 16) dX12_make_16 rfl h hP
  · have h := sx_neg c1 h
    refine sx_aload_n (pc := 7) dX12_make_7 sx_m0 ?_
    refine sv_getZ (pc := 8) hG dX12_make_8 f_12_767 lay_146 rfl ?_
    refine sx_if_ne (pc := 11) (tgt := 17) dX12_make_11 (by decide) (fun c2 => ?_) (fun c2 => ?_)
    · have h := sx_neg c2 h
      refine sx_iload_n (pc := 17) dX12_make_17 sx_m1 ?_
      refine sx_i2l (pc := 18) dX12_make_18 ?_
      refine sx_lconst (pc := 19) (v := 0) dX12_make_19 rfl ?_
      refine sx_aload_n (pc := 20) dX12_make_20 sx_m0 ?_
      refine sv_getI (pc := 21) hG dX12_make_21 f_12_260 lay_146 rfl ?_
      refine sx_iconst (pc := 24) (v := 1) dX12_make_24 (by decide) ?_
      refine sx_isub (pc := 25) dX12_make_25 ?_
      refine sx_i2l (pc := 26) dX12_make_26 ?_
      obtain ⟨⟨x5, V3⟩, g4, h⟩ := sx_bnd h
      refine sv_cS (pc := 27) (y := qX12_in) (o := (some (.int x5))) (as := [.long l1.toInt64, .long (0 : Int64), .long (((V.1 146 12) - (1 : Int32)).toInt64)]) (V1 := V3) dX12_make_27 l_X12_263 y0X12_in ysX12_in rfl (Nat.le_of_ble_eq_true rfl) (by decide) (Nat.le_of_ble_eq_true rfl) rfl rfl rfl (t_X12_in hG ⟨rfl, rfl⟩ g4) ?_
      refine sx_if_eq (pc := 30) (tgt := 41) dX12_make_30 (by decide) (fun c6 => ?_) (fun c6 => ?_)
      · have h := sx_pos c6 h
        refine sx_iconst (pc := 41) (v := (-1)) dX12_make_41 (by decide) ?_
        exact sv_iret (pc := 42) dX12_make_42 rfl h hP
      · have h := sx_neg c6 h
        refine sx_aload_n (pc := 33) dX12_make_33 sx_m0 ?_
        refine sx_iload_n (pc := 34) dX12_make_34 sx_m1 ?_
        obtain ⟨⟨x9, V7⟩, g8, h⟩ := sx_bnd h
        refine sv_cV (pc := 35) (y := qX12_makeIt) (o := (some (.int x9))) (as := [.int l1]) (V1 := V7) hG dX12_make_35 l_X12_832 y0X12_makeIt yvX12_makeIt rfl (Nat.le_of_ble_eq_true rfl) lay_146 kr_12 (by decide) (Nat.le_of_ble_eq_true rfl) rfl rfl rfl (t_X12_makeIt hG ⟨rfl, rfl⟩ g8) ?_
        refine sx_goto (pc := 38) (tgt := 42) dX12_make_38 (by decide) ?_
        exact sv_iret (pc := 42) dX12_make_42 rfl h hP
    · have h := sx_pos c2 h
      refine sx_bipush (pc := 14) (v := (-3)) dX12_make_14 (by decide) ?_
      exact sv_iret (pc := 16) dX12_make_16 rfl h hP
theorem dX12_line_0 : decode cX12_line 0 = .ok (.aload_n 0, 1) := by decide +kernel
theorem dX12_line_1 : decode cX12_line 1 = .ok (.getfield 759, 3) := by decide +kernel
theorem dX12_line_4 : decode cX12_line 4 = .ok (.ifCond .eq 17, 3) := by decide +kernel
theorem dX12_line_7 : decode cX12_line 7 = .ok (.aload_n 0, 1) := by decide +kernel
theorem dX12_line_8 : decode cX12_line 8 = .ok (.getfield 767, 3) := by decide +kernel
theorem dX12_line_11 : decode cX12_line 11 = .ok (.ifCond .eq 10, 3) := by decide +kernel
theorem dX12_line_14 : decode cX12_line 14 = .ok (.aload_n 0, 1) := by decide +kernel
theorem dX12_line_15 : decode cX12_line 15 = .ok (.getfield 881, 3) := by decide +kernel
theorem dX12_line_18 : decode cX12_line 18 = .ok (.ifCond .ne 6, 3) := by decide +kernel
theorem dX12_line_21 : decode cX12_line 21 = .ok (.bipush (-3), 2) := by decide +kernel
theorem dX12_line_23 : decode cX12_line 23 = .ok (.ireturn, 1) := by decide +kernel
theorem dX12_line_24 : decode cX12_line 24 = .ok (.iload_n 1, 1) := by decide +kernel
theorem dX12_line_25 : decode cX12_line 25 = .ok (.i2l, 1) := by decide +kernel
theorem dX12_line_26 : decode cX12_line 26 = .ok (.ldc2_w 887, 3) := by decide +kernel
theorem dX12_line_29 : decode cX12_line 29 = .ok (.ldc2_w 889, 3) := by decide +kernel
theorem dX12_line_32 : decode cX12_line 32 = .ok (.invokestatic 263, 3) := by decide +kernel
theorem dX12_line_35 : decode cX12_line 35 = .ok (.ifCond .eq 17, 3) := by decide +kernel
theorem dX12_line_38 : decode cX12_line 38 = .ok (.iload_n 2, 1) := by decide +kernel
theorem dX12_line_39 : decode cX12_line 39 = .ok (.i2l, 1) := by decide +kernel
theorem dX12_line_40 : decode cX12_line 40 = .ok (.ldc2_w 887, 3) := by decide +kernel
theorem dX12_line_43 : decode cX12_line 43 = .ok (.ldc2_w 889, 3) := by decide +kernel
theorem dX12_line_46 : decode cX12_line 46 = .ok (.invokestatic 263, 3) := by decide +kernel
theorem dX12_line_49 : decode cX12_line 49 = .ok (.ifCond .ne 6, 3) := by decide +kernel
theorem dX12_line_52 : decode cX12_line 52 = .ok (.bipush (-2), 2) := by decide +kernel
theorem dX12_line_54 : decode cX12_line 54 = .ok (.ireturn, 1) := by decide +kernel
theorem dX12_line_55 : decode cX12_line 55 = .ok (.aload_n 0, 1) := by decide +kernel
theorem dX12_line_56 : decode cX12_line 56 = .ok (.getfield 896, 3) := by decide +kernel
theorem dX12_line_59 : decode cX12_line 59 = .ok (.istore_n 3, 1) := by decide +kernel
theorem dX12_line_60 : decode cX12_line 60 = .ok (.aload_n 0, 1) := by decide +kernel
theorem dX12_line_61 : decode cX12_line 61 = .ok (.iconst 0, 1) := by decide +kernel
theorem dX12_line_62 : decode cX12_line 62 = .ok (.putfield 896, 3) := by decide +kernel
theorem dX12_line_65 : decode cX12_line 65 = .ok (.iload_n 1, 1) := by decide +kernel
theorem dX12_line_66 : decode cX12_line 66 = .ok (.istore 4, 2) := by decide +kernel
theorem dX12_line_68 : decode cX12_line 68 = .ok (.iconst (-1), 1) := by decide +kernel
theorem dX12_line_69 : decode cX12_line 69 = .ok (.istore 5, 2) := by decide +kernel
theorem dX12_line_71 : decode cX12_line 71 = .ok (.iconst 0, 1) := by decide +kernel
theorem dX12_line_72 : decode cX12_line 72 = .ok (.istore 6, 2) := by decide +kernel
theorem dX12_line_74 : decode cX12_line 74 = .ok (.iload 6, 2) := by decide +kernel
theorem dX12_line_76 : decode cX12_line 76 = .ok (.iload_n 3, 1) := by decide +kernel
theorem dX12_line_77 : decode cX12_line 77 = .ok (.if_icmp .ge 111, 3) := by decide +kernel
theorem dX12_line_80 : decode cX12_line 80 = .ok (.aload_n 0, 1) := by decide +kernel
theorem dX12_line_81 : decode cX12_line 81 = .ok (.aload_n 0, 1) := by decide +kernel
theorem dX12_line_82 : decode cX12_line 82 = .ok (.getfield 191, 3) := by decide +kernel
theorem dX12_line_85 : decode cX12_line 85 = .ok (.iload 6, 2) := by decide +kernel
theorem dX12_line_87 : decode cX12_line 87 = .ok (.iaload, 1) := by decide +kernel
theorem dX12_line_88 : decode cX12_line 88 = .ok (.invokevirtual 902, 3) := by decide +kernel
theorem dX12_line_91 : decode cX12_line 91 = .ok (.istore 7, 2) := by decide +kernel
theorem dX12_line_93 : decode cX12_line 93 = .ok (.iload 4, 2) := by decide +kernel
theorem dX12_line_95 : decode cX12_line 95 = .ok (.iload 5, 2) := by decide +kernel
theorem dX12_line_97 : decode cX12_line 97 = .ok (.iconst (-1), 1) := by decide +kernel
theorem dX12_line_98 : decode cX12_line 98 = .ok (.if_icmp .ne 7, 3) := by decide +kernel
theorem dX12_line_101 : decode cX12_line 101 = .ok (.iconst 0, 1) := by decide +kernel
theorem dX12_line_102 : decode cX12_line 102 = .ok (.goto 16, 3) := by decide +kernel
theorem dX12_line_105 : decode cX12_line 105 = .ok (.aload_n 0, 1) := by decide +kernel
theorem dX12_line_106 : decode cX12_line 106 = .ok (.aload_n 0, 1) := by decide +kernel
theorem dX12_line_107 : decode cX12_line 107 = .ok (.iload 5, 2) := by decide +kernel
theorem dX12_line_109 : decode cX12_line 109 = .ok (.iload 7, 2) := by decide +kernel
theorem dX12_line_111 : decode cX12_line 111 = .ok (.invokevirtual 905, 3) := by decide +kernel
theorem dX12_line_114 : decode cX12_line 114 = .ok (.i2l, 1) := by decide +kernel
theorem dX12_line_115 : decode cX12_line 115 = .ok (.invokevirtual 611, 3) := by decide +kernel
theorem dX12_line_118 : decode cX12_line 118 = .ok (.iadd, 1) := by decide +kernel
theorem dX12_line_119 : decode cX12_line 119 = .ok (.istore 4, 2) := by decide +kernel
theorem dX12_line_121 : decode cX12_line 121 = .ok (.aload_n 0, 1) := by decide +kernel
theorem dX12_line_122 : decode cX12_line 122 = .ok (.iload 7, 2) := by decide +kernel
theorem dX12_line_124 : decode cX12_line 124 = .ok (.invokevirtual 832, 3) := by decide +kernel
theorem dX12_line_127 : decode cX12_line 127 = .ok (.istore 8, 2) := by decide +kernel
theorem dX12_line_129 : decode cX12_line 129 = .ok (.iload 8, 2) := by decide +kernel
theorem dX12_line_131 : decode cX12_line 131 = .ok (.ifCond .ge 10, 3) := by decide +kernel
theorem dX12_line_134 : decode cX12_line 134 = .ok (.ldc_w 908, 3) := by decide +kernel
theorem dX12_line_137 : decode cX12_line 137 = .ok (.iload 8, 2) := by decide +kernel
theorem dX12_line_139 : decode cX12_line 139 = .ok (.iadd, 1) := by decide +kernel
theorem dX12_line_140 : decode cX12_line 140 = .ok (.ireturn, 1) := by decide +kernel
theorem dX12_line_141 : decode cX12_line 141 = .ok (.iload 4, 2) := by decide +kernel
theorem dX12_line_143 : decode cX12_line 143 = .ok (.i2l, 1) := by decide +kernel
theorem dX12_line_144 : decode cX12_line 144 = .ok (.ldc2_w 887, 3) := by decide +kernel
theorem dX12_line_147 : decode cX12_line 147 = .ok (.ldc2_w 889, 3) := by decide +kernel
theorem dX12_line_150 : decode cX12_line 150 = .ok (.invokestatic 263, 3) := by decide +kernel
theorem dX12_line_153 : decode cX12_line 153 = .ok (.ifCond .ne 7, 3) := by decide +kernel
theorem dX12_line_156 : decode cX12_line 156 = .ok (.ldc_w 909, 3) := by decide +kernel
theorem dX12_line_159 : decode cX12_line 159 = .ok (.ireturn, 1) := by decide +kernel
theorem dX12_line_160 : decode cX12_line 160 = .ok (.aload_n 0, 1) := by decide +kernel
theorem dX12_line_161 : decode cX12_line 161 = .ok (.iload 4, 2) := by decide +kernel
theorem dX12_line_163 : decode cX12_line 163 = .ok (.iload_n 2, 1) := by decide +kernel
theorem dX12_line_164 : decode cX12_line 164 = .ok (.invokevirtual 891, 3) := by decide +kernel
theorem dX12_line_167 : decode cX12_line 167 = .ok (.istore 9, 2) := by decide +kernel
theorem dX12_line_169 : decode cX12_line 169 = .ok (.iload 4, 2) := by decide +kernel
theorem dX12_line_171 : decode cX12_line 171 = .ok (.aload_n 0, 1) := by decide +kernel
theorem dX12_line_172 : decode cX12_line 172 = .ok (.getfield 829, 3) := by decide +kernel
theorem dX12_line_175 : decode cX12_line 175 = .ok (.iadd, 1) := by decide +kernel
theorem dX12_line_176 : decode cX12_line 176 = .ok (.istore 4, 2) := by decide +kernel
theorem dX12_line_178 : decode cX12_line 178 = .ok (.iload 7, 2) := by decide +kernel
theorem dX12_line_180 : decode cX12_line 180 = .ok (.istore 5, 2) := by decide +kernel
theorem dX12_line_182 : decode cX12_line 182 = .ok (.iinc 6 1, 3) := by decide +kernel
theorem dX12_line_185 : decode cX12_line 185 = .ok (.goto (-111), 3) := by decide +kernel
theorem dX12_line_188 : decode cX12_line 188 = .ok (.iload 4, 2) := by decide +kernel
theorem dX12_line_190 : decode cX12_line 190 = .ok (.ireturn, 1) := by decide +kernel
def B_X12_line_118 (N : Nat) (k74 : Int32 → Int32 → Int32 → Int32 → Int32 → sv_V → Option (Int32 × sv_V)) (l2 : Int32) (l3 : Int32) (l6 : Int32) (l7 : Int32) (s0 : Int32) (s1 : Int32) (V : sv_V) : Option (Int32 × sv_V) := sx_let (s0 + s1) (fun x1 => (F_X12_makeIt N l7 V).bind (fun (x4, V2) => if 0 ≤ x4 then ((F_X12_in x1.toInt64 (-20000 : Int64) (20000 : Int64) V2).bind (fun (x8, V6) => if x8 = 0 then (some ((-1000200 : Int32), V6)) else ((F_X12_drawIt N x1 l2 V6).bind (fun (x12, V10) => sx_let (x1 + (V10.1 146 134)) (fun x13 => sx_let (l6 + 1) (fun x14 => k74 l2 l3 x13 l7 x14 V10)))))) else (some ((-1000000 : Int32) + x4, V2))))
set_option maxRecDepth 20000 in
theorem tB_X12_line_118 {g : sx_G} (hG : sx_Go g) {P : Option Value → sv_V → Prop} {r : Int32} {Vr : sv_V} (hP : P (some (.int r)) Vr) {N : Nat} {k74 : Int32 → Int32 → Int32 → Int32 → Int32 → sv_V → Option (Int32 × sv_V)} (hk74 : ∀ (l2 : Int32) (l3 : Int32) (l4 : Int32) (l5 : Int32) (l6 : Int32) (V : sv_V), k74 l2 l3 l4 l5 l6 V = some (r, Vr) → sv_N g qX12_line 48 74 [(0, .ref 146), (2, .int l2), (3, .int l3), (4, .int l4), (5, .int l5), (6, .int l6)] [] V P) {l2 : Int32} {l3 : Int32} {l6 : Int32} {l7 : Int32} {s0 : Int32} {s1 : Int32} {V : sv_V} (h : B_X12_line_118 N k74 l2 l3 l6 l7 s0 s1 V = some (r, Vr)) : sv_N g qX12_line 48 118 [(0, .ref 146), (2, .int l2), (3, .int l3), (6, .int l6), (7, .int l7)] [.int s1, .int s0] V P := by
  unfold B_X12_line_118 at h
  refine sx_iadd (pc := 118) dX12_line_118 ?_
  refine sv_tI (fun x1 hx1 => ?_)
  have h := sx_letE hx1 h
  refine sx_istore (pc := 119) (lo' := [(4, .int x1), (0, .ref 146), (2, .int l2), (3, .int l3), (6, .int l6), (7, .int l7)]) dX12_line_119 (by decide) rfl ?_
  refine sx_aload_n (pc := 121) dX12_line_121 sx_m1 ?_
  refine sx_iload (pc := 122) dX12_line_122 sx_m5 ?_
  obtain ⟨⟨x4, V2⟩, g3, h⟩ := sx_bnd h
  refine sv_cV (pc := 124) (y := qX12_makeIt) (o := (some (.int x4))) (as := [.int l7]) (V1 := V2) hG dX12_line_124 l_X12_832 y0X12_makeIt yvX12_makeIt rfl (Nat.le_of_ble_eq_true rfl) lay_146 kr_12 (by decide) (Nat.le_of_ble_eq_true rfl) rfl rfl rfl (t_X12_makeIt hG ⟨rfl, rfl⟩ g3) ?_
  refine sx_istore (pc := 127) (lo' := [(8, .int x4), (4, .int x1), (0, .ref 146), (2, .int l2), (3, .int l3), (6, .int l6), (7, .int l7)]) dX12_line_127 (by decide) rfl ?_
  refine sx_iload (pc := 129) dX12_line_129 sx_m0 ?_
  refine sx_if_ge (pc := 131) (tgt := 141) dX12_line_131 (by decide) (fun c5 => ?_) (fun c5 => ?_)
  · have h := sx_pos c5 h
    refine sx_iload (pc := 141) dX12_line_141 sx_m1 ?_
    refine sx_i2l (pc := 143) dX12_line_143 ?_
    refine sx_ldc2 (pc := 144) dX12_line_144 k_X12_887 ?_
    refine sx_ldc2 (pc := 147) dX12_line_147 k_X12_889 ?_
    obtain ⟨⟨x8, V6⟩, g7, h⟩ := sx_bnd h
    refine sv_cS (pc := 150) (y := qX12_in) (o := (some (.int x8))) (as := [.long x1.toInt64, .long (-20000 : Int64), .long (20000 : Int64)]) (V1 := V6) dX12_line_150 l_X12_263 y0X12_in ysX12_in rfl (Nat.le_of_ble_eq_true rfl) (by decide) (Nat.le_of_ble_eq_true rfl) rfl rfl rfl (t_X12_in hG ⟨rfl, rfl⟩ g7) ?_
    refine sx_if_ne (pc := 153) (tgt := 160) dX12_line_153 (by decide) (fun c9 => ?_) (fun c9 => ?_)
    · have h := sx_neg c9 h
      refine sx_aload_n (pc := 160) dX12_line_160 sx_m2 ?_
      refine sx_iload (pc := 161) dX12_line_161 sx_m1 ?_
      refine sx_iload_n (pc := 163) dX12_line_163 sx_m3 ?_
      obtain ⟨⟨x12, V10⟩, g11, h⟩ := sx_bnd h
      refine sv_cV (pc := 164) (y := qX12_drawIt) (o := (some (.int x12))) (as := [.int x1, .int l2]) (V1 := V10) hG dX12_line_164 l_X12_891 y0X12_drawIt yvX12_drawIt rfl (Nat.le_of_ble_eq_true rfl) lay_146 kr_12 (by decide) (Nat.le_of_ble_eq_true rfl) rfl rfl rfl (t_X12_drawIt hG ⟨rfl, rfl⟩ g11) ?_
      refine sx_istore (pc := 167) (lo' := [(9, .int x12), (8, .int x4), (4, .int x1), (0, .ref 146), (2, .int l2), (3, .int l3), (6, .int l6), (7, .int l7)]) dX12_line_167 (by decide) rfl ?_
      refine sx_iload (pc := 169) dX12_line_169 sx_m2 ?_
      refine sx_aload_n (pc := 171) dX12_line_171 sx_m3 ?_
      refine sv_getI (pc := 172) hG dX12_line_172 f_12_829 lay_146 rfl ?_
      refine sx_iadd (pc := 175) dX12_line_175 ?_
      refine sv_tI (fun x13 hx13 => ?_)
      have h := sx_letE hx13 h
      refine sx_istore (pc := 176) (lo' := [(4, .int x13), (9, .int x12), (8, .int x4), (0, .ref 146), (2, .int l2), (3, .int l3), (6, .int l6), (7, .int l7)]) dX12_line_176 (by decide) rfl ?_
      refine sx_iload (pc := 178) dX12_line_178 sx_m7 ?_
      refine sx_istore (pc := 180) (lo' := [(5, .int l7), (4, .int x13), (9, .int x12), (8, .int x4), (0, .ref 146), (2, .int l2), (3, .int l3), (6, .int l6), (7, .int l7)]) dX12_line_180 (by decide) rfl ?_
      obtain ⟨x14, hx14⟩ : ∃ z : Int32, z = l6 + 1 := ⟨_, rfl⟩
      have h := sx_letE hx14 h
      refine sx_iinc (pc := 182) (v := x14) (lo' := [(6, .int x14), (5, .int l7), (4, .int x13), (9, .int x12), (8, .int x4), (0, .ref 146), (2, .int l2), (3, .int l3), (7, .int l7)]) dX12_line_182 sx_m7 (by rw [hx14]; rfl) (by decide) rfl ?_
      refine sx_goto (pc := 185) (tgt := 74) dX12_line_185 (by decide) ?_
      refine sx_wk (sx_s1 sx_m5 (sx_s1 sx_m6 (sx_s1 sx_m7 (sx_s1 sx_m2 (sx_s1 sx_m1 (sx_s1 sx_m0 sx_s0)))))) ?_
      exact hk74 _ _ _ _ _ _ h
    · have h := sx_pos c9 h
      refine sx_ldcw (pc := 156) dX12_line_156 k_X12_909 ?_
      exact sv_iret (pc := 159) dX12_line_159 rfl h hP
  · have h := sx_neg c5 h
    refine sx_ldcw (pc := 134) dX12_line_134 k_X12_908 ?_
    refine sx_iload (pc := 137) dX12_line_137 sx_m0 ?_
    refine sx_iadd (pc := 139) dX12_line_139 ?_
    exact sv_iret (pc := 140) dX12_line_140 rfl h hP
def B_X12_line_74 (N : Nat) (k74 : Int32 → Int32 → Int32 → Int32 → Int32 → sv_V → Option (Int32 × sv_V)) (l2 : Int32) (l3 : Int32) (l4 : Int32) (l5 : Int32) (l6 : Int32) (V : sv_V) : Option (Int32 × sv_V) := if l3 ≤ l6 then (some (l4, V)) else (if sx_in l6 100 = true then (F_X12_glyphAt N (V.1 205 l6.toNatClampNeg) V).bind (fun (x19, V17) => if l5 = (-1 : Int32) then (B_X12_line_118 N k74 l2 l3 l6 x19 l4 (0 : Int32) V17) else ((F_X12_kernOf N l5 x19 V17).bind (fun (x23, V21) => (F_X12_scaled x23.toInt64 V21).bind (fun (x26, V24) => B_X12_line_118 N k74 l2 l3 l6 x19 l4 x26 V24)))) else none)
set_option maxRecDepth 20000 in
theorem tB_X12_line_74 {g : sx_G} (hG : sx_Go g) {P : Option Value → sv_V → Prop} {r : Int32} {Vr : sv_V} (hP : P (some (.int r)) Vr) {N : Nat} {k74 : Int32 → Int32 → Int32 → Int32 → Int32 → sv_V → Option (Int32 × sv_V)} (hk74 : ∀ (l2 : Int32) (l3 : Int32) (l4 : Int32) (l5 : Int32) (l6 : Int32) (V : sv_V), k74 l2 l3 l4 l5 l6 V = some (r, Vr) → sv_N g qX12_line 48 74 [(0, .ref 146), (2, .int l2), (3, .int l3), (4, .int l4), (5, .int l5), (6, .int l6)] [] V P) {l2 : Int32} {l3 : Int32} {l4 : Int32} {l5 : Int32} {l6 : Int32} {V : sv_V} (h : B_X12_line_74 N k74 l2 l3 l4 l5 l6 V = some (r, Vr)) : sv_N g qX12_line 48 74 [(0, .ref 146), (2, .int l2), (3, .int l3), (4, .int l4), (5, .int l5), (6, .int l6)] [] V P := by
  unfold B_X12_line_74 at h
  refine sx_iload (pc := 74) dX12_line_74 sx_m5 ?_
  refine sx_iload_n (pc := 76) dX12_line_76 sx_m2 ?_
  refine sx_icmp_ge (pc := 77) (tgt := 188) dX12_line_77 (by decide) (fun c15 => ?_) (fun c15 => ?_)
  · have h := sx_pos c15 h
    refine sx_iload (pc := 188) dX12_line_188 sx_m3 ?_
    exact sv_iret (pc := 190) dX12_line_190 rfl h hP
  · have h := sx_neg c15 h
    refine sx_aload_n (pc := 80) dX12_line_80 sx_m0 ?_
    refine sx_aload_n (pc := 81) dX12_line_81 sx_m0 ?_
    refine sv_getA (pc := 82) hG dX12_line_82 f_12_191 lay_146 rfl cr_146_145 ?_
    refine sx_iload (pc := 85) dX12_line_85 sx_m5 ?_
    obtain ⟨g16, h⟩ := sx_grd h
    refine sv_iald (pc := 87) hG dX12_line_87 lay_205 g16 ?_
    obtain ⟨⟨x19, V17⟩, g18, h⟩ := sx_bnd h
    refine sv_cV (pc := 88) (y := qX12_glyphAt) (o := (some (.int x19))) (as := [.int (V.1 205 l6.toNatClampNeg)]) (V1 := V17) hG dX12_line_88 l_X12_902 y0X12_glyphAt yvX12_glyphAt rfl (Nat.le_of_ble_eq_true rfl) lay_146 kr_12 (by decide) (Nat.le_of_ble_eq_true rfl) rfl rfl rfl (t_X12_glyphAt hG ⟨rfl, rfl⟩ g18) ?_
    refine sx_istore (pc := 91) (lo' := [(7, .int x19), (0, .ref 146), (2, .int l2), (3, .int l3), (4, .int l4), (5, .int l5), (6, .int l6)]) dX12_line_91 (by decide) rfl ?_
    refine sx_iload (pc := 93) dX12_line_93 sx_m4 ?_
    refine sx_iload (pc := 95) dX12_line_95 sx_m5 ?_
    refine sx_iconst (pc := 97) (v := (-1)) dX12_line_97 (by decide) ?_
    refine sx_icmp_ne (pc := 98) (tgt := 105) dX12_line_98 (by decide) (fun c20 => ?_) (fun c20 => ?_)
    · have h := sx_neg c20 h
      refine sx_aload_n (pc := 105) dX12_line_105 sx_m1 ?_
      refine sx_aload_n (pc := 106) dX12_line_106 sx_m1 ?_
      refine sx_iload (pc := 107) dX12_line_107 sx_m5 ?_
      refine sx_iload (pc := 109) dX12_line_109 sx_m0 ?_
      obtain ⟨⟨x23, V21⟩, g22, h⟩ := sx_bnd h
      refine sv_cV (pc := 111) (y := qX12_kernOf) (o := (some (.int x23))) (as := [.int l5, .int x19]) (V1 := V21) hG dX12_line_111 l_X12_905 y0X12_kernOf yvX12_kernOf rfl (Nat.le_of_ble_eq_true rfl) lay_146 kr_12 (by decide) (Nat.le_of_ble_eq_true rfl) rfl rfl rfl (t_X12_kernOf hG ⟨rfl, rfl⟩ g22) ?_
      refine sx_i2l (pc := 114) dX12_line_114 ?_
      obtain ⟨⟨x26, V24⟩, g25, h⟩ := sx_bnd h
      refine sv_cV (pc := 115) (y := qX12_scaled) (o := (some (.int x26))) (as := [.long x23.toInt64]) (V1 := V24) hG dX12_line_115 l_X12_611 y0X12_scaled yvX12_scaled rfl (Nat.le_of_ble_eq_true rfl) lay_146 kr_12 (by decide) (Nat.le_of_ble_eq_true rfl) rfl rfl rfl (t_X12_scaled hG ⟨rfl, rfl⟩ g25) ?_
      refine sx_wk (sx_s1 sx_m1 (sx_s1 sx_m2 (sx_s1 sx_m3 (sx_s1 sx_m6 (sx_s1 sx_m0 sx_s0))))) ?_
      exact tB_X12_line_118 hG hP hk74 h
    · have h := sx_pos c20 h
      refine sx_iconst (pc := 101) (v := 0) dX12_line_101 (by decide) ?_
      refine sx_goto (pc := 102) (tgt := 118) dX12_line_102 (by decide) ?_
      refine sx_wk (sx_s1 sx_m1 (sx_s1 sx_m2 (sx_s1 sx_m3 (sx_s1 sx_m6 (sx_s1 sx_m0 sx_s0))))) ?_
      exact tB_X12_line_118 hG hP hk74 h
theorem tL_X12_line_74 {g : sx_G} (hG : sx_Go g) {P : Option Value → sv_V → Prop} {r : Int32} {Vr : sv_V} (hP : P (some (.int r)) Vr) {N : Nat}   : ∀ (n : Nat) (l2 : Int32) (l3 : Int32) (l4 : Int32) (l5 : Int32) (l6 : Int32) (V : sv_V), sx_lp6 (B_X12_line_74 N ) n l2 l3 l4 l5 l6 V = some (r, Vr) → sv_N g qX12_line 48 74 [(0, .ref 146), (2, .int l2), (3, .int l3), (4, .int l4), (5, .int l5), (6, .int l6)] [] V P :=
  sx_lp6_ind (fun k0 ih _ _ _ _ _ V h => tB_X12_line_74 hG hP ih h)
def F_X12_line (N : Nat) (l1 : Int32) (l2 : Int32) (V : sv_V) : Option (Int32 × sv_V) := if (V.1 146 4) = 0 then (some ((-3 : Int32), V)) else (if (V.1 146 107) = 0 then (some ((-3 : Int32), V)) else (if (V.1 146 141) = 0 then (some ((-3 : Int32), V)) else ((F_X12_in l1.toInt64 (-20000 : Int64) (20000 : Int64) V).bind (fun (x32, V30) => if x32 = 0 then (some ((-2 : Int32), V30)) else ((F_X12_in l2.toInt64 (-20000 : Int64) (20000 : Int64) V30).bind (fun (x36, V34) => if x36 = 0 then (some ((-2 : Int32), V34)) else (sx_let (V34.1 146 144) (fun x38 => sx_let (sv_I V34 146 144 (0 : Int32)) (fun V39 => sx_lp6 (B_X12_line_74 N ) N l2 x38 l1 (-1 : Int32) (0 : Int32) V39)))))))))
set_option maxRecDepth 20000 in
theorem t_X12_line {g : sx_G} (hG : sx_Go g) {P : Option Value → sv_V → Prop} {r : Int32} {Vr : sv_V} (hP : P (some (.int r)) Vr) {N : Nat} {l1 : Int32} {l2 : Int32} {V : sv_V} (h : F_X12_line N l1 l2 V = some (r, Vr)) : sv_N g qX12_line 48 0 [(0, .ref 146), (1, .int l1), (2, .int l2)] [] V P := by
  unfold F_X12_line at h
  refine sx_aload_n (pc := 0) dX12_line_0 sx_m0 ?_
  refine sv_getZ (pc := 1) hG dX12_line_1 f_12_759 lay_146 rfl ?_
  refine sx_if_eq (pc := 4) (tgt := 21) dX12_line_4 (by decide) (fun c27 => ?_) (fun c27 => ?_)
  · have h := sx_pos c27 h
    refine sx_bipush (pc := 21) (v := (-3)) dX12_line_21 (by decide) ?_
    exact sv_iret (pc := 23) dX12_line_23 rfl h hP
  · have h := sx_neg c27 h
    refine sx_aload_n (pc := 7) dX12_line_7 sx_m0 ?_
    refine sv_getZ (pc := 8) hG dX12_line_8 f_12_767 lay_146 rfl ?_
    refine sx_if_eq (pc := 11) (tgt := 21) dX12_line_11 (by decide) (fun c28 => ?_) (fun c28 => ?_)
    · have h := sx_pos c28 h
      refine sx_bipush (pc := 21) (v := (-3)) dX12_line_21 (by decide) ?_
      exact sv_iret (pc := 23) dX12_line_23 rfl h hP
    · have h := sx_neg c28 h
      refine sx_aload_n (pc := 14) dX12_line_14 sx_m0 ?_
      refine sv_getI (pc := 15) hG dX12_line_15 f_12_881 lay_146 rfl ?_
      refine sx_if_ne (pc := 18) (tgt := 24) dX12_line_18 (by decide) (fun c29 => ?_) (fun c29 => ?_)
      · have h := sx_neg c29 h
        refine sx_iload_n (pc := 24) dX12_line_24 sx_m1 ?_
        refine sx_i2l (pc := 25) dX12_line_25 ?_
        refine sx_ldc2 (pc := 26) dX12_line_26 k_X12_887 ?_
        refine sx_ldc2 (pc := 29) dX12_line_29 k_X12_889 ?_
        obtain ⟨⟨x32, V30⟩, g31, h⟩ := sx_bnd h
        refine sv_cS (pc := 32) (y := qX12_in) (o := (some (.int x32))) (as := [.long l1.toInt64, .long (-20000 : Int64), .long (20000 : Int64)]) (V1 := V30) dX12_line_32 l_X12_263 y0X12_in ysX12_in rfl (Nat.le_of_ble_eq_true rfl) (by decide) (Nat.le_of_ble_eq_true rfl) rfl rfl rfl (t_X12_in hG ⟨rfl, rfl⟩ g31) ?_
        refine sx_if_eq (pc := 35) (tgt := 52) dX12_line_35 (by decide) (fun c33 => ?_) (fun c33 => ?_)
        · have h := sx_pos c33 h
          refine sx_bipush (pc := 52) (v := (-2)) dX12_line_52 (by decide) ?_
          exact sv_iret (pc := 54) dX12_line_54 rfl h hP
        · have h := sx_neg c33 h
          refine sx_iload_n (pc := 38) dX12_line_38 sx_m2 ?_
          refine sx_i2l (pc := 39) dX12_line_39 ?_
          refine sx_ldc2 (pc := 40) dX12_line_40 k_X12_887 ?_
          refine sx_ldc2 (pc := 43) dX12_line_43 k_X12_889 ?_
          obtain ⟨⟨x36, V34⟩, g35, h⟩ := sx_bnd h
          refine sv_cS (pc := 46) (y := qX12_in) (o := (some (.int x36))) (as := [.long l2.toInt64, .long (-20000 : Int64), .long (20000 : Int64)]) (V1 := V34) dX12_line_46 l_X12_263 y0X12_in ysX12_in rfl (Nat.le_of_ble_eq_true rfl) (by decide) (Nat.le_of_ble_eq_true rfl) rfl rfl rfl (t_X12_in hG ⟨rfl, rfl⟩ g35) ?_
          refine sx_if_ne (pc := 49) (tgt := 55) dX12_line_49 (by decide) (fun c37 => ?_) (fun c37 => ?_)
          · have h := sx_neg c37 h
            refine sx_aload_n (pc := 55) dX12_line_55 sx_m0 ?_
            refine sv_getI (pc := 56) hG dX12_line_56 f_12_896 lay_146 rfl ?_
            refine sv_tI (fun x38 hx38 => ?_)
            have h := sx_letE hx38 h
            refine sx_istore_n (pc := 59) (lo' := [(3, .int x38), (0, .ref 146), (1, .int l1), (2, .int l2)]) dX12_line_59 (by decide) rfl ?_
            refine sx_aload_n (pc := 60) dX12_line_60 sx_m1 ?_
            refine sx_iconst (pc := 61) (v := 0) dX12_line_61 (by decide) ?_
            obtain ⟨V39, hV39⟩ : ∃ z : sv_V, z = sv_I V34 146 144 (0 : Int32) := ⟨_, rfl⟩
            have h := sx_letE hV39 h
            refine sv_putI (pc := 62) hG dX12_line_62 f_12_896 lay_146 rfl hV39 ?_
            refine sx_iload_n (pc := 65) dX12_line_65 sx_m2 ?_
            refine sx_istore (pc := 66) (lo' := [(4, .int l1), (3, .int x38), (0, .ref 146), (1, .int l1), (2, .int l2)]) dX12_line_66 (by decide) rfl ?_
            refine sx_iconst (pc := 68) (v := (-1)) dX12_line_68 (by decide) ?_
            refine sx_istore (pc := 69) (lo' := [(5, .int (-1 : Int32)), (4, .int l1), (3, .int x38), (0, .ref 146), (1, .int l1), (2, .int l2)]) dX12_line_69 (by decide) rfl ?_
            refine sx_iconst (pc := 71) (v := 0) dX12_line_71 (by decide) ?_
            refine sx_istore (pc := 72) (lo' := [(6, .int (0 : Int32)), (5, .int (-1 : Int32)), (4, .int l1), (3, .int x38), (0, .ref 146), (1, .int l1), (2, .int l2)]) dX12_line_72 (by decide) rfl ?_
            refine sx_wk (sx_s1 sx_m4 (sx_s1 sx_m6 (sx_s1 sx_m3 (sx_s1 sx_m2 (sx_s1 sx_m1 (sx_s1 sx_m0 sx_s0)))))) ?_
            exact tL_X12_line_74 hG hP  N _ _ _ _ _ _ h
          · have h := sx_pos c37 h
            refine sx_bipush (pc := 52) (v := (-2)) dX12_line_52 (by decide) ?_
            exact sv_iret (pc := 54) dX12_line_54 rfl h hP
      · have h := sx_pos c29 h
        refine sx_bipush (pc := 21) (v := (-3)) dX12_line_21 (by decide) ?_
        exact sv_iret (pc := 23) dX12_line_23 rfl h hP
