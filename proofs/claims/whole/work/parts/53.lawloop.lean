def S_person (F : Nat) (I : jS → jS → Prop) : Prop := ∀ (σ τ : jS) (x1 : Int32) (x2 : Int32) (x3 : Int32), I σ τ → ∃ (r : Int32) (σ2 : jS) (τ2 : jS), mX11_person F x1 x2 x3 σ = some (r, σ2) ∧ mX12_person F x1 x2 x3 τ = some (r, τ2) ∧ I σ2 τ2
def S_feed (F : Nat) (I : jS → jS → Prop) : Prop := ∀ (σ τ : jS) (x1 : Int32) (x2 : Int32) (x3 : Int32) (x4 : Int32) (x5 : Int32), I σ τ → ∃ (r : Int32) (σ2 : jS) (τ2 : jS), mX11_feed F x1 x2 x3 x4 x5 σ = some (r, σ2) ∧ mX12_feed F x1 x2 x3 x4 x5 τ = some (r, τ2) ∧ I σ2 τ2
def S_law (F : Nat) (I : jS → jS → Prop) : Prop := ∀ (σ τ : jS) (x1 : Int32), I σ τ → ∃ (r : Int32) (σ2 : jS) (τ2 : jS), mX11_law F x1 σ = some (r, σ2) ∧ mX12_law F x1 τ = some (r, τ2) ∧ I σ2 τ2
def S_routine (F : Nat) (I : jS → jS → Prop) : Prop := ∀ (σ τ : jS) (x1 : Int32) (x2 : Int32), I σ τ → ∃ (r : Int32) (σ2 : jS) (τ2 : jS), mX11_routine F x1 x2 σ = some (r, σ2) ∧ mX12_routine F x1 x2 τ = some (r, τ2) ∧ I σ2 τ2
def S_ledger (F : Nat) (I : jS → jS → Prop) : Prop := ∀ (σ τ : jS) (x1 : Int32), I σ τ → ∃ (r : Int32) (σ2 : jS) (τ2 : jS), mX11_ledger F x1 σ = some (r, σ2) ∧ mX12_ledger F x1 τ = some (r, τ2) ∧ I σ2 τ2
def S_days (F : Nat) (I : jS → jS → Prop) : Prop := ∀ (σ τ : jS) (x1 : Int32), I σ τ → ∃ (r : Int32) (σ2 : jS) (τ2 : jS), mX11_days F x1 σ = some (r, σ2) ∧ mX12_days F x1 τ = some (r, τ2) ∧ I σ2 τ2
def S_tried (F : Nat) (I : jS → jS → Prop) : Prop := ∀ (σ τ : jS) (x1 : Int32) (x2 : Int32), I σ τ → ∃ (r : Int32) (σ2 : jS) (τ2 : jS), mX11_tried F x1 x2 σ = some (r, σ2) ∧ mX12_tried F x1 x2 τ = some (r, τ2) ∧ I σ2 τ2
def S_personIs (F : Nat) (I : jS → jS → Prop) : Prop := ∀ (σ τ : jS) (x1 : Int32) (x2 : Int32), I σ τ → ∃ (r : Int32), mX11_personIs F x1 x2 σ = some r ∧ mX12_personIs F x1 x2 τ = some r ∧ I σ τ
def S_loanIs (F : Nat) (I : jS → jS → Prop) : Prop := ∀ (σ τ : jS) (x1 : Int32) (x2 : Int32), I σ τ → ∃ (r : Int32), mX11_loanIs F x1 x2 σ = some r ∧ mX12_loanIs F x1 x2 τ = some r ∧ I σ τ
def S_dies (F : Nat) (I : jS → jS → Prop) : Prop := ∀ (σ τ : jS) (x1 : Int32) (x2 : Int32), I σ τ → ∃ (r : Int32) (σ2 : jS) (τ2 : jS), mX11_dies F x1 x2 σ = some (r, σ2) ∧ mX12_dies F x1 x2 τ = some (r, τ2) ∧ I σ2 τ2
def S_costs (F : Nat) (I : jS → jS → Prop) : Prop := ∀ (σ τ : jS) (x1 : Int32) (x2 : Int32), I σ τ → ∃ (r : Int32) (σ2 : jS) (τ2 : jS), mX11_costs F x1 x2 σ = some (r, σ2) ∧ mX12_costs F x1 x2 τ = some (r, τ2) ∧ I σ2 τ2
def S_paidOff (F : Nat) (I : jS → jS → Prop) : Prop := ∀ (σ τ : jS) (x1 : Int32), I σ τ → ∃ (r : Int32), mX11_paidOff F x1 σ = some r ∧ mX12_paidOff F x1 τ = some r ∧ I σ τ
def S_dueAfter (F : Nat) (I : jS → jS → Prop) : Prop := ∀ (σ τ : jS) (x1 : Int32) (x2 : Int32), I σ τ → ∃ (r : Int32), mX11_dueAfter F x1 x2 σ = some r ∧ mX12_dueAfter F x1 x2 τ = some r ∧ I σ τ
def S_hiccups (F : Nat) (I : jS → jS → Prop) : Prop := ∀ (σ τ : jS) (x1 : Int32) (x2 : Int32), I σ τ → ∃ (r : Int32), mX11_hiccups F x1 x2 σ = some r ∧ mX12_hiccups F x1 x2 τ = some r ∧ I σ τ
def S_left (F : Nat) (I : jS → jS → Prop) : Prop := ∀ (σ τ : jS) (x1 : Int32), I σ τ → ∃ (r : Int32) (σ2 : jS) (τ2 : jS), mX11_left F x1 σ = some (r, σ2) ∧ mX12_left F x1 τ = some (r, τ2) ∧ I σ2 τ2
def S_longest (F : Nat) (I : jS → jS → Prop) : Prop := ∀ (σ τ : jS), I σ τ → ∃ (r : Int32) (σ2 : jS) (τ2 : jS), mX11_longest F  σ = some (r, σ2) ∧ mX12_longest F  τ = some (r, τ2) ∧ I σ2 τ2
def S_stillest (F : Nat) (I : jS → jS → Prop) : Prop := ∀ (σ τ : jS) (x1 : Int32), I σ τ → ∃ (r : Int32) (σ2 : jS) (τ2 : jS), mX11_stillest F x1 σ = some (r, σ2) ∧ mX12_stillest F x1 τ = some (r, τ2) ∧ I σ2 τ2
def S_alike (F : Nat) (I : jS → jS → Prop) : Prop := ∀ (σ τ : jS) (x1 : Int32) (x2 : Int32) (x3 : Int32), I σ τ → ∃ (r : Int32), mX11_alike F x1 x2 x3 σ = some r ∧ mX12_alike F x1 x2 x3 τ = some r ∧ I σ τ
def S_rings (F : Nat) (I : jS → jS → Prop) : Prop := ∀ (σ τ : jS) (x1 : Int32), I σ τ → ∃ (r : Int32) (σ2 : jS) (τ2 : jS), mX11_rings F x1 σ = some (r, σ2) ∧ mX12_rings F x1 τ = some (r, τ2) ∧ I σ2 τ2
def S_settled (F : Nat) (I : jS → jS → Prop) : Prop := ∀ (σ τ : jS) (x1 : Int32) (x2 : Int32), I σ τ → ∃ (r : Int32) (σ2 : jS) (τ2 : jS), mX11_settled F x1 x2 σ = some (r, σ2) ∧ mX12_settled F x1 x2 τ = some (r, τ2) ∧ I σ2 τ2
def S_joy (F : Nat) (I : jS → jS → Prop) : Prop := ∀ (σ τ : jS) (x1 : Int32) (x2 : Int32) (x3 : Int32), I σ τ → ∃ (r : Int32) (σ2 : jS) (τ2 : jS), mX11_joy F x1 x2 x3 σ = some (r, σ2) ∧ mX12_joy F x1 x2 x3 τ = some (r, τ2) ∧ I σ2 τ2
def S_run (F : Nat) (I : jS → jS → Prop) : Prop := ∀ (σ τ : jS) (x1 : Int32) (x2 : Int32), I σ τ → ∃ (r : Int32) (σ2 : jS) (τ2 : jS), mX11_run F x1 x2 σ = some (r, σ2) ∧ mX12_run F x1 x2 τ = some (r, τ2) ∧ I σ2 τ2
def S_table (F : Nat) (I : jS → jS → Prop) : Prop := ∀ (σ τ : jS) (x1 : Int32) (x2 : Int32), I σ τ → ∃ (r : Int32) (σ2 : jS) (τ2 : jS), mX11_table F x1 x2 σ = some (r, σ2) ∧ mX12_table F x1 x2 τ = some (r, τ2) ∧ I σ2 τ2
def S_atOnce (F : Nat) (I : jS → jS → Prop) : Prop := ∀ (σ τ : jS) (x1 : Int32) (x2 : Int32), I σ τ → ∃ (r : Int32) (σ2 : jS) (τ2 : jS), mX11_atOnce F x1 x2 σ = some (r, σ2) ∧ mX12_atOnce F x1 x2 τ = some (r, τ2) ∧ I σ2 τ2
def S_pulse (F : Nat) (I : jS → jS → Prop) : Prop := ∀ (σ τ : jS) (x1 : Int32) (x2 : Int32), I σ τ → ∃ (r : Int32) (σ2 : jS) (τ2 : jS), mX11_pulse F x1 x2 σ = some (r, σ2) ∧ mX12_pulse F x1 x2 τ = some (r, τ2) ∧ I σ2 τ2
def S_stairs (F : Nat) (I : jS → jS → Prop) : Prop := ∀ (σ τ : jS) (x1 : Int32) (x2 : Int32), I σ τ → ∃ (r : Int32) (σ2 : jS) (τ2 : jS), mX11_stairs F x1 x2 σ = some (r, σ2) ∧ mX12_stairs F x1 x2 τ = some (r, τ2) ∧ I σ2 τ2
def S_bells (F : Nat) (I : jS → jS → Prop) : Prop := ∀ (σ τ : jS) (x1 : Int32) (x2 : Int32), I σ τ → ∃ (r : Int32) (σ2 : jS) (τ2 : jS), mX11_bells F x1 x2 σ = some (r, σ2) ∧ mX12_bells F x1 x2 τ = some (r, τ2) ∧ I σ2 τ2
def S_seed (F : Nat) (I : jS → jS → Prop) : Prop := ∀ (σ τ : jS) (x1 : Int32), I σ τ → ∃ (r : Int32) (σ2 : jS) (τ2 : jS), mX11_seed F x1 σ = some (r, σ2) ∧ mX12_seed F x1 τ = some (r, τ2) ∧ I σ2 τ2
def S_keep (F : Nat) (I : jS → jS → Prop) : Prop := ∀ (σ τ : jS), I σ τ → ∃ (r : Int32) (σ2 : jS) (τ2 : jS), mX11_keep F  σ = some (r, σ2) ∧ mX12_keep F  τ = some (r, τ2) ∧ I σ2 τ2
def S_undo (F : Nat) (I : jS → jS → Prop) : Prop := ∀ (σ τ : jS), I σ τ → ∃ (r : Int32) (σ2 : jS) (τ2 : jS), mX11_undo F  σ = some (r, σ2) ∧ mX12_undo F  τ = some (r, τ2) ∧ I σ2 τ2
def S_check (F : Nat) (I : jS → jS → Prop) : Prop := ∀ (σ τ : jS) (x1 : Int32), I σ τ → ∃ (r : Int32) (σ2 : jS) (τ2 : jS), mX11_check F x1 σ = some (r, σ2) ∧ mX12_check F x1 τ = some (r, τ2) ∧ I σ2 τ2
def S_count (F : Nat) (I : jS → jS → Prop) : Prop := ∀ (σ τ : jS) (x1 : Int32), I σ τ → ∃ (r : Int32), mX11_count F x1 σ = some r ∧ mX12_count F x1 τ = some r ∧ I σ τ
set_option maxHeartbeats 4000000 in
set_option maxRecDepth 100000 in
theorem law_person {G : lG} (C : lc G) {F : Nat} {I : jS → jS → Prop} (hs : S_person F I) {x3 : Int32} (hin1 : vp_in (x3 + 1) (lL G)) (hin2 : vp_in (x3 + 2) (lL G)) (hin3 : vp_in (x3 + 3) (lL G)) {σ τ : jS} (hI : I σ τ) (kk : ∀ σ τ, I σ τ → lJ G 1132 [(0, .ref (lb G)), (1, .ref (vad (l1 G) 0)), (2, .ref (vad (l2 G) 0)), (3, .int x3)] [] σ τ) : lJ G 176 [(0, .ref (lb G)), (1, .ref (vad (l1 G) 0)), (2, .ref (vad (l2 G) 0)), (3, .int x3)] [] σ τ := by
  obtain ⟨r, σ2, τ2, hx, hy, hI2⟩ := hs σ τ (lx G (x3 + 1).toNatClampNeg) (lx G (x3 + 2).toNatClampNeg) (lx G (x3 + 3).toNatClampNeg) hI
  refine l_aload (pc := 176) C 1 dL_law_176 rfl rfl ?_
  refine l_aload (pc := 177) C 0 dL_law_177 rfl rfl ?_
  refine l_iload (pc := 178) C 3 dL_law_178 rfl rfl ?_
  refine l_iconst (v := 1) (pc := 179) C dL_law_179 (by decide) ?_
  refine l_iadd (pc := 180) C dL_law_180 ?_
  refine l_sld (pc := 181) C hin1 dL_law_181 ?_
  refine l_aload (pc := 182) C 0 dL_law_182 rfl rfl ?_
  refine l_iload (pc := 183) C 3 dL_law_183 rfl rfl ?_
  refine l_iconst (v := 2) (pc := 184) C dL_law_184 (by decide) ?_
  refine l_iadd (pc := 185) C dL_law_185 ?_
  refine l_sld (pc := 186) C hin2 dL_law_186 ?_
  refine l_aload (pc := 187) C 0 dL_law_187 rfl rfl ?_
  refine l_iload (pc := 188) C 3 dL_law_188 rfl rfl ?_
  refine l_iconst (v := 3) (pc := 189) C dL_law_189 (by decide) ?_
  refine l_iadd (pc := 190) C dL_law_190 ?_
  refine l_sld (pc := 191) C hin3 dL_law_191 ?_
  refine l_callX (pc := 192) (n := 3) (as := [.int (lx G (x3 + 1).toNatClampNeg), .int (lx G (x3 + 2).toNatClampNeg), .int (lx G (x3 + 3).toNatClampNeg)]) (r := (r, σ2)) C (kX11_person hx) tw_2_132 tw_2_133 tw_2_134 tw_1_1 tw_2_135 (by decide +kernel) (by decide) (by decide) rfl (Nat.le_of_ble_eq_true rfl) dL_law_192 ?_
  refine l_aload (pc := 195) C 2 dL_law_195 rfl rfl ?_
  refine l_aload (pc := 196) C 0 dL_law_196 rfl rfl ?_
  refine l_iload (pc := 197) C 3 dL_law_197 rfl rfl ?_
  refine l_iconst (v := 1) (pc := 198) C dL_law_198 (by decide) ?_
  refine l_iadd (pc := 199) C dL_law_199 ?_
  refine l_sld (pc := 200) C hin1 dL_law_200 ?_
  refine l_aload (pc := 201) C 0 dL_law_201 rfl rfl ?_
  refine l_iload (pc := 202) C 3 dL_law_202 rfl rfl ?_
  refine l_iconst (v := 2) (pc := 203) C dL_law_203 (by decide) ?_
  refine l_iadd (pc := 204) C dL_law_204 ?_
  refine l_sld (pc := 205) C hin2 dL_law_205 ?_
  refine l_aload (pc := 206) C 0 dL_law_206 rfl rfl ?_
  refine l_iload (pc := 207) C 3 dL_law_207 rfl rfl ?_
  refine l_iconst (v := 3) (pc := 208) C dL_law_208 (by decide) ?_
  refine l_iadd (pc := 209) C dL_law_209 ?_
  refine l_sld (pc := 210) C hin3 dL_law_210 ?_
  refine l_callM (pc := 211) (n := 3) (as := [.int (lx G (x3 + 1).toNatClampNeg), .int (lx G (x3 + 2).toNatClampNeg), .int (lx G (x3 + 3).toNatClampNeg)]) (r := (r, τ2)) C (kX12_person hy) tw_6_2 tw_6_3 tw_6_4 tw_1_13 tw_6_5 (by decide +kernel) (by decide) (by decide) rfl (Nat.le_of_ble_eq_true rfl) dL_law_211 ?_
  refine l_same (tgt := 1132) (pc := 214) C dL_law_214 (by decide) ?_
  exact kk _ _ hI2
set_option maxHeartbeats 4000000 in
set_option maxRecDepth 100000 in
theorem law_feed {G : lG} (C : lc G) {F : Nat} {I : jS → jS → Prop} (hs : S_feed F I) {x3 : Int32} (hin1 : vp_in (x3 + 1) (lL G)) (hin2 : vp_in (x3 + 2) (lL G)) (hin3 : vp_in (x3 + 3) (lL G)) (hin4 : vp_in (x3 + 4) (lL G)) (hin5 : vp_in (x3 + 5) (lL G)) {σ τ : jS} (hI : I σ τ) (kk : ∀ σ τ, I σ τ → lJ G 1132 [(0, .ref (lb G)), (1, .ref (vad (l1 G) 0)), (2, .ref (vad (l2 G) 0)), (3, .int x3)] [] σ τ) : lJ G 219 [(0, .ref (lb G)), (1, .ref (vad (l1 G) 0)), (2, .ref (vad (l2 G) 0)), (3, .int x3)] [] σ τ := by
  obtain ⟨r, σ2, τ2, hx, hy, hI2⟩ := hs σ τ (lx G (x3 + 1).toNatClampNeg) (lx G (x3 + 2).toNatClampNeg) (lx G (x3 + 3).toNatClampNeg) (lx G (x3 + 4).toNatClampNeg) (lx G (x3 + 5).toNatClampNeg) hI
  refine l_aload (pc := 219) C 1 dL_law_219 rfl rfl ?_
  refine l_aload (pc := 220) C 0 dL_law_220 rfl rfl ?_
  refine l_iload (pc := 221) C 3 dL_law_221 rfl rfl ?_
  refine l_iconst (v := 1) (pc := 222) C dL_law_222 (by decide) ?_
  refine l_iadd (pc := 223) C dL_law_223 ?_
  refine l_sld (pc := 224) C hin1 dL_law_224 ?_
  refine l_aload (pc := 225) C 0 dL_law_225 rfl rfl ?_
  refine l_iload (pc := 226) C 3 dL_law_226 rfl rfl ?_
  refine l_iconst (v := 2) (pc := 227) C dL_law_227 (by decide) ?_
  refine l_iadd (pc := 228) C dL_law_228 ?_
  refine l_sld (pc := 229) C hin2 dL_law_229 ?_
  refine l_aload (pc := 230) C 0 dL_law_230 rfl rfl ?_
  refine l_iload (pc := 231) C 3 dL_law_231 rfl rfl ?_
  refine l_iconst (v := 3) (pc := 232) C dL_law_232 (by decide) ?_
  refine l_iadd (pc := 233) C dL_law_233 ?_
  refine l_sld (pc := 234) C hin3 dL_law_234 ?_
  refine l_aload (pc := 235) C 0 dL_law_235 rfl rfl ?_
  refine l_iload (pc := 236) C 3 dL_law_236 rfl rfl ?_
  refine l_iconst (v := 4) (pc := 237) C dL_law_237 (by decide) ?_
  refine l_iadd (pc := 238) C dL_law_238 ?_
  refine l_sld (pc := 239) C hin4 dL_law_239 ?_
  refine l_aload (pc := 240) C 0 dL_law_240 rfl rfl ?_
  refine l_iload (pc := 241) C 3 dL_law_241 rfl rfl ?_
  refine l_iconst (v := 5) (pc := 242) C dL_law_242 (by decide) ?_
  refine l_iadd (pc := 243) C dL_law_243 ?_
  refine l_sld (pc := 244) C hin5 dL_law_244 ?_
  refine l_callX (pc := 245) (n := 5) (as := [.int (lx G (x3 + 1).toNatClampNeg), .int (lx G (x3 + 2).toNatClampNeg), .int (lx G (x3 + 3).toNatClampNeg), .int (lx G (x3 + 4).toNatClampNeg), .int (lx G (x3 + 5).toNatClampNeg)]) (r := (r, σ2)) C (kX11_feed hx) tw_2_141 tw_2_142 tw_2_143 tw_1_1 tw_2_144 (by decide +kernel) (by decide) (by decide) rfl (Nat.le_of_ble_eq_true rfl) dL_law_245 ?_
  refine l_aload (pc := 248) C 2 dL_law_248 rfl rfl ?_
  refine l_aload (pc := 249) C 0 dL_law_249 rfl rfl ?_
  refine l_iload (pc := 250) C 3 dL_law_250 rfl rfl ?_
  refine l_iconst (v := 1) (pc := 251) C dL_law_251 (by decide) ?_
  refine l_iadd (pc := 252) C dL_law_252 ?_
  refine l_sld (pc := 253) C hin1 dL_law_253 ?_
  refine l_aload (pc := 254) C 0 dL_law_254 rfl rfl ?_
  refine l_iload (pc := 255) C 3 dL_law_255 rfl rfl ?_
  refine l_iconst (v := 2) (pc := 256) C dL_law_256 (by decide) ?_
  refine l_iadd (pc := 257) C dL_law_257 ?_
  refine l_sld (pc := 258) C hin2 dL_law_258 ?_
  refine l_aload (pc := 259) C 0 dL_law_259 rfl rfl ?_
  refine l_iload (pc := 260) C 3 dL_law_260 rfl rfl ?_
  refine l_iconst (v := 3) (pc := 261) C dL_law_261 (by decide) ?_
  refine l_iadd (pc := 262) C dL_law_262 ?_
  refine l_sld (pc := 263) C hin3 dL_law_263 ?_
  refine l_aload (pc := 264) C 0 dL_law_264 rfl rfl ?_
  refine l_iload (pc := 265) C 3 dL_law_265 rfl rfl ?_
  refine l_iconst (v := 4) (pc := 266) C dL_law_266 (by decide) ?_
  refine l_iadd (pc := 267) C dL_law_267 ?_
  refine l_sld (pc := 268) C hin4 dL_law_268 ?_
  refine l_aload (pc := 269) C 0 dL_law_269 rfl rfl ?_
  refine l_iload (pc := 270) C 3 dL_law_270 rfl rfl ?_
  refine l_iconst (v := 5) (pc := 271) C dL_law_271 (by decide) ?_
  refine l_iadd (pc := 272) C dL_law_272 ?_
  refine l_sld (pc := 273) C hin5 dL_law_273 ?_
  refine l_callM (pc := 274) (n := 5) (as := [.int (lx G (x3 + 1).toNatClampNeg), .int (lx G (x3 + 2).toNatClampNeg), .int (lx G (x3 + 3).toNatClampNeg), .int (lx G (x3 + 4).toNatClampNeg), .int (lx G (x3 + 5).toNatClampNeg)]) (r := (r, τ2)) C (kX12_feed hy) tw_6_11 tw_6_12 tw_6_13 tw_1_13 tw_6_14 (by decide +kernel) (by decide) (by decide) rfl (Nat.le_of_ble_eq_true rfl) dL_law_274 ?_
  refine l_same (tgt := 1132) (pc := 277) C dL_law_277 (by decide) ?_
  exact kk _ _ hI2
set_option maxHeartbeats 4000000 in
set_option maxRecDepth 100000 in
theorem law_law {G : lG} (C : lc G) {F : Nat} {I : jS → jS → Prop} (hs : S_law F I) {x3 : Int32} (hin1 : vp_in (x3 + 1) (lL G)) {σ τ : jS} (hI : I σ τ) (kk : ∀ σ τ, I σ τ → lJ G 1132 [(0, .ref (lb G)), (1, .ref (vad (l1 G) 0)), (2, .ref (vad (l2 G) 0)), (3, .int x3)] [] σ τ) : lJ G 282 [(0, .ref (lb G)), (1, .ref (vad (l1 G) 0)), (2, .ref (vad (l2 G) 0)), (3, .int x3)] [] σ τ := by
  obtain ⟨r, σ2, τ2, hx, hy, hI2⟩ := hs σ τ (lx G (x3 + 1).toNatClampNeg) hI
  refine l_aload (pc := 282) C 1 dL_law_282 rfl rfl ?_
  refine l_aload (pc := 283) C 0 dL_law_283 rfl rfl ?_
  refine l_iload (pc := 284) C 3 dL_law_284 rfl rfl ?_
  refine l_iconst (v := 1) (pc := 285) C dL_law_285 (by decide) ?_
  refine l_iadd (pc := 286) C dL_law_286 ?_
  refine l_sld (pc := 287) C hin1 dL_law_287 ?_
  refine l_callX (pc := 288) (n := 1) (as := [.int (lx G (x3 + 1).toNatClampNeg)]) (r := (r, σ2)) C (kX11_law hx) tw_2_149 tw_2_150 tw_2_151 tw_1_1 tw_2_152 (by decide +kernel) (by decide) (by decide) rfl (Nat.le_of_ble_eq_true rfl) dL_law_288 ?_
  refine l_aload (pc := 291) C 2 dL_law_291 rfl rfl ?_
  refine l_aload (pc := 292) C 0 dL_law_292 rfl rfl ?_
  refine l_iload (pc := 293) C 3 dL_law_293 rfl rfl ?_
  refine l_iconst (v := 1) (pc := 294) C dL_law_294 (by decide) ?_
  refine l_iadd (pc := 295) C dL_law_295 ?_
  refine l_sld (pc := 296) C hin1 dL_law_296 ?_
  refine l_callM (pc := 297) (n := 1) (as := [.int (lx G (x3 + 1).toNatClampNeg)]) (r := (r, τ2)) C (kX12_law hy) tw_6_19 tw_6_20 tw_6_21 tw_1_13 tw_6_22 (by decide +kernel) (by decide) (by decide) rfl (Nat.le_of_ble_eq_true rfl) dL_law_297 ?_
  refine l_same (tgt := 1132) (pc := 300) C dL_law_300 (by decide) ?_
  exact kk _ _ hI2
set_option maxHeartbeats 4000000 in
set_option maxRecDepth 100000 in
theorem law_routine {G : lG} (C : lc G) {F : Nat} {I : jS → jS → Prop} (hs : S_routine F I) {x3 : Int32} (hin1 : vp_in (x3 + 1) (lL G)) (hin2 : vp_in (x3 + 2) (lL G)) {σ τ : jS} (hI : I σ τ) (kk : ∀ σ τ, I σ τ → lJ G 1132 [(0, .ref (lb G)), (1, .ref (vad (l1 G) 0)), (2, .ref (vad (l2 G) 0)), (3, .int x3)] [] σ τ) : lJ G 305 [(0, .ref (lb G)), (1, .ref (vad (l1 G) 0)), (2, .ref (vad (l2 G) 0)), (3, .int x3)] [] σ τ := by
  obtain ⟨r, σ2, τ2, hx, hy, hI2⟩ := hs σ τ (lx G (x3 + 1).toNatClampNeg) (lx G (x3 + 2).toNatClampNeg) hI
  refine l_aload (pc := 305) C 1 dL_law_305 rfl rfl ?_
  refine l_aload (pc := 306) C 0 dL_law_306 rfl rfl ?_
  refine l_iload (pc := 307) C 3 dL_law_307 rfl rfl ?_
  refine l_iconst (v := 1) (pc := 308) C dL_law_308 (by decide) ?_
  refine l_iadd (pc := 309) C dL_law_309 ?_
  refine l_sld (pc := 310) C hin1 dL_law_310 ?_
  refine l_aload (pc := 311) C 0 dL_law_311 rfl rfl ?_
  refine l_iload (pc := 312) C 3 dL_law_312 rfl rfl ?_
  refine l_iconst (v := 2) (pc := 313) C dL_law_313 (by decide) ?_
  refine l_iadd (pc := 314) C dL_law_314 ?_
  refine l_sld (pc := 315) C hin2 dL_law_315 ?_
  refine l_callX (pc := 316) (n := 2) (as := [.int (lx G (x3 + 1).toNatClampNeg), .int (lx G (x3 + 2).toNatClampNeg)]) (r := (r, σ2)) C (kX11_routine hx) tw_3_95 tw_3_96 tw_3_97 tw_1_1 tw_3_98 (by decide +kernel) (by decide) (by decide) rfl (Nat.le_of_ble_eq_true rfl) dL_law_316 ?_
  refine l_aload (pc := 319) C 2 dL_law_319 rfl rfl ?_
  refine l_aload (pc := 320) C 0 dL_law_320 rfl rfl ?_
  refine l_iload (pc := 321) C 3 dL_law_321 rfl rfl ?_
  refine l_iconst (v := 1) (pc := 322) C dL_law_322 (by decide) ?_
  refine l_iadd (pc := 323) C dL_law_323 ?_
  refine l_sld (pc := 324) C hin1 dL_law_324 ?_
  refine l_aload (pc := 325) C 0 dL_law_325 rfl rfl ?_
  refine l_iload (pc := 326) C 3 dL_law_326 rfl rfl ?_
  refine l_iconst (v := 2) (pc := 327) C dL_law_327 (by decide) ?_
  refine l_iadd (pc := 328) C dL_law_328 ?_
  refine l_sld (pc := 329) C hin2 dL_law_329 ?_
  refine l_callM (pc := 330) (n := 2) (as := [.int (lx G (x3 + 1).toNatClampNeg), .int (lx G (x3 + 2).toNatClampNeg)]) (r := (r, τ2)) C (kX12_routine hy) tw_6_106 tw_6_107 tw_6_108 tw_1_13 tw_6_109 (by decide +kernel) (by decide) (by decide) rfl (Nat.le_of_ble_eq_true rfl) dL_law_330 ?_
  refine l_same (tgt := 1132) (pc := 333) C dL_law_333 (by decide) ?_
  exact kk _ _ hI2
set_option maxHeartbeats 4000000 in
set_option maxRecDepth 100000 in
theorem law_ledger {G : lG} (C : lc G) {F : Nat} {I : jS → jS → Prop} (hs : S_ledger F I) {x3 : Int32} (hin1 : vp_in (x3 + 1) (lL G)) {σ τ : jS} (hI : I σ τ) (kk : ∀ σ τ, I σ τ → lJ G 1132 [(0, .ref (lb G)), (1, .ref (vad (l1 G) 0)), (2, .ref (vad (l2 G) 0)), (3, .int x3)] [] σ τ) : lJ G 338 [(0, .ref (lb G)), (1, .ref (vad (l1 G) 0)), (2, .ref (vad (l2 G) 0)), (3, .int x3)] [] σ τ := by
  obtain ⟨r, σ2, τ2, hx, hy, hI2⟩ := hs σ τ (lx G (x3 + 1).toNatClampNeg) hI
  refine l_aload (pc := 338) C 1 dL_law_338 rfl rfl ?_
  refine l_aload (pc := 339) C 0 dL_law_339 rfl rfl ?_
  refine l_iload (pc := 340) C 3 dL_law_340 rfl rfl ?_
  refine l_iconst (v := 1) (pc := 341) C dL_law_341 (by decide) ?_
  refine l_iadd (pc := 342) C dL_law_342 ?_
  refine l_sld (pc := 343) C hin1 dL_law_343 ?_
  refine l_callX (pc := 344) (n := 1) (as := [.int (lx G (x3 + 1).toNatClampNeg)]) (r := (r, σ2)) C (kX11_ledger hx) tw_3_138 tw_3_139 tw_3_140 tw_1_1 tw_3_141 (by decide +kernel) (by decide) (by decide) rfl (Nat.le_of_ble_eq_true rfl) dL_law_344 ?_
  refine l_aload (pc := 347) C 2 dL_law_347 rfl rfl ?_
  refine l_aload (pc := 348) C 0 dL_law_348 rfl rfl ?_
  refine l_iload (pc := 349) C 3 dL_law_349 rfl rfl ?_
  refine l_iconst (v := 1) (pc := 350) C dL_law_350 (by decide) ?_
  refine l_iadd (pc := 351) C dL_law_351 ?_
  refine l_sld (pc := 352) C hin1 dL_law_352 ?_
  refine l_callM (pc := 353) (n := 1) (as := [.int (lx G (x3 + 1).toNatClampNeg)]) (r := (r, τ2)) C (kX12_ledger hy) tw_6_125 tw_6_126 tw_6_127 tw_1_13 tw_6_128 (by decide +kernel) (by decide) (by decide) rfl (Nat.le_of_ble_eq_true rfl) dL_law_353 ?_
  refine l_same (tgt := 1132) (pc := 356) C dL_law_356 (by decide) ?_
  exact kk _ _ hI2
set_option maxHeartbeats 4000000 in
set_option maxRecDepth 100000 in
theorem law_days {G : lG} (C : lc G) {F : Nat} {I : jS → jS → Prop} (hs : S_days F I) {x3 : Int32} (hin1 : vp_in (x3 + 1) (lL G)) {σ τ : jS} (hI : I σ τ) (kk : ∀ σ τ, I σ τ → lJ G 1132 [(0, .ref (lb G)), (1, .ref (vad (l1 G) 0)), (2, .ref (vad (l2 G) 0)), (3, .int x3)] [] σ τ) : lJ G 361 [(0, .ref (lb G)), (1, .ref (vad (l1 G) 0)), (2, .ref (vad (l2 G) 0)), (3, .int x3)] [] σ τ := by
  obtain ⟨r, σ2, τ2, hx, hy, hI2⟩ := hs σ τ (lx G (x3 + 1).toNatClampNeg) hI
  refine l_aload (pc := 361) C 1 dL_law_361 rfl rfl ?_
  refine l_aload (pc := 362) C 0 dL_law_362 rfl rfl ?_
  refine l_iload (pc := 363) C 3 dL_law_363 rfl rfl ?_
  refine l_iconst (v := 1) (pc := 364) C dL_law_364 (by decide) ?_
  refine l_iadd (pc := 365) C dL_law_365 ?_
  refine l_sld (pc := 366) C hin1 dL_law_366 ?_
  refine l_callX (pc := 367) (n := 1) (as := [.int (lx G (x3 + 1).toNatClampNeg)]) (r := (r, σ2)) C (kX11_days hx) tw_3_175 tw_3_176 tw_3_177 tw_1_1 tw_3_178 (by decide +kernel) (by decide) (by decide) rfl (Nat.le_of_ble_eq_true rfl) dL_law_367 ?_
  refine l_aload (pc := 370) C 2 dL_law_370 rfl rfl ?_
  refine l_aload (pc := 371) C 0 dL_law_371 rfl rfl ?_
  refine l_iload (pc := 372) C 3 dL_law_372 rfl rfl ?_
  refine l_iconst (v := 1) (pc := 373) C dL_law_373 (by decide) ?_
  refine l_iadd (pc := 374) C dL_law_374 ?_
  refine l_sld (pc := 375) C hin1 dL_law_375 ?_
  refine l_callM (pc := 376) (n := 1) (as := [.int (lx G (x3 + 1).toNatClampNeg)]) (r := (r, τ2)) C (kX12_days hy) tw_6_149 tw_6_150 tw_6_151 tw_1_13 tw_6_152 (by decide +kernel) (by decide) (by decide) rfl (Nat.le_of_ble_eq_true rfl) dL_law_376 ?_
  refine l_same (tgt := 1132) (pc := 379) C dL_law_379 (by decide) ?_
  exact kk _ _ hI2
set_option maxHeartbeats 4000000 in
set_option maxRecDepth 100000 in
theorem law_tried {G : lG} (C : lc G) {F : Nat} {I : jS → jS → Prop} (hs : S_tried F I) {x3 : Int32} (hin1 : vp_in (x3 + 1) (lL G)) (hin2 : vp_in (x3 + 2) (lL G)) {σ τ : jS} (hI : I σ τ) (kk : ∀ σ τ, I σ τ → lJ G 1132 [(0, .ref (lb G)), (1, .ref (vad (l1 G) 0)), (2, .ref (vad (l2 G) 0)), (3, .int x3)] [] σ τ) : lJ G 384 [(0, .ref (lb G)), (1, .ref (vad (l1 G) 0)), (2, .ref (vad (l2 G) 0)), (3, .int x3)] [] σ τ := by
  obtain ⟨r, σ2, τ2, hx, hy, hI2⟩ := hs σ τ (lx G (x3 + 1).toNatClampNeg) (lx G (x3 + 2).toNatClampNeg) hI
  refine l_aload (pc := 384) C 1 dL_law_384 rfl rfl ?_
  refine l_aload (pc := 385) C 0 dL_law_385 rfl rfl ?_
  refine l_iload (pc := 386) C 3 dL_law_386 rfl rfl ?_
  refine l_iconst (v := 1) (pc := 387) C dL_law_387 (by decide) ?_
  refine l_iadd (pc := 388) C dL_law_388 ?_
  refine l_sld (pc := 389) C hin1 dL_law_389 ?_
  refine l_aload (pc := 390) C 0 dL_law_390 rfl rfl ?_
  refine l_iload (pc := 391) C 3 dL_law_391 rfl rfl ?_
  refine l_iconst (v := 2) (pc := 392) C dL_law_392 (by decide) ?_
  refine l_iadd (pc := 393) C dL_law_393 ?_
  refine l_sld (pc := 394) C hin2 dL_law_394 ?_
  refine l_callX (pc := 395) (n := 2) (as := [.int (lx G (x3 + 1).toNatClampNeg), .int (lx G (x3 + 2).toNatClampNeg)]) (r := (r, σ2)) C (kX11_tried hx) tw_4_51 tw_4_52 tw_4_53 tw_1_1 tw_4_54 (by decide +kernel) (by decide) (by decide) rfl (Nat.le_of_ble_eq_true rfl) dL_law_395 ?_
  refine l_aload (pc := 398) C 2 dL_law_398 rfl rfl ?_
  refine l_aload (pc := 399) C 0 dL_law_399 rfl rfl ?_
  refine l_iload (pc := 400) C 3 dL_law_400 rfl rfl ?_
  refine l_iconst (v := 1) (pc := 401) C dL_law_401 (by decide) ?_
  refine l_iadd (pc := 402) C dL_law_402 ?_
  refine l_sld (pc := 403) C hin1 dL_law_403 ?_
  refine l_aload (pc := 404) C 0 dL_law_404 rfl rfl ?_
  refine l_iload (pc := 405) C 3 dL_law_405 rfl rfl ?_
  refine l_iconst (v := 2) (pc := 406) C dL_law_406 (by decide) ?_
  refine l_iadd (pc := 407) C dL_law_407 ?_
  refine l_sld (pc := 408) C hin2 dL_law_408 ?_
  refine l_callM (pc := 409) (n := 2) (as := [.int (lx G (x3 + 1).toNatClampNeg), .int (lx G (x3 + 2).toNatClampNeg)]) (r := (r, τ2)) C (kX12_tried hy) tw_6_227 tw_6_228 tw_6_229 tw_1_13 tw_6_230 (by decide +kernel) (by decide) (by decide) rfl (Nat.le_of_ble_eq_true rfl) dL_law_409 ?_
  refine l_same (tgt := 1132) (pc := 412) C dL_law_412 (by decide) ?_
  exact kk _ _ hI2
set_option maxHeartbeats 4000000 in
set_option maxRecDepth 100000 in
theorem law_personIs {G : lG} (C : lc G) {F : Nat} {I : jS → jS → Prop} (hs : S_personIs F I) {x3 : Int32} (hin1 : vp_in (x3 + 1) (lL G)) (hin2 : vp_in (x3 + 2) (lL G)) {σ τ : jS} (hI : I σ τ) (kk : ∀ σ τ, I σ τ → lJ G 1132 [(0, .ref (lb G)), (1, .ref (vad (l1 G) 0)), (2, .ref (vad (l2 G) 0)), (3, .int x3)] [] σ τ) : lJ G 417 [(0, .ref (lb G)), (1, .ref (vad (l1 G) 0)), (2, .ref (vad (l2 G) 0)), (3, .int x3)] [] σ τ := by
  obtain ⟨r, hx, hy, hI2⟩ := hs σ τ (lx G (x3 + 1).toNatClampNeg) (lx G (x3 + 2).toNatClampNeg) hI
  refine l_aload (pc := 417) C 1 dL_law_417 rfl rfl ?_
  refine l_aload (pc := 418) C 0 dL_law_418 rfl rfl ?_
  refine l_iload (pc := 419) C 3 dL_law_419 rfl rfl ?_
  refine l_iconst (v := 1) (pc := 420) C dL_law_420 (by decide) ?_
  refine l_iadd (pc := 421) C dL_law_421 ?_
  refine l_sld (pc := 422) C hin1 dL_law_422 ?_
  refine l_aload (pc := 423) C 0 dL_law_423 rfl rfl ?_
  refine l_iload (pc := 424) C 3 dL_law_424 rfl rfl ?_
  refine l_iconst (v := 2) (pc := 425) C dL_law_425 (by decide) ?_
  refine l_iadd (pc := 426) C dL_law_426 ?_
  refine l_sld (pc := 427) C hin2 dL_law_427 ?_
  refine l_callX (pc := 428) (n := 2) (as := [.int (lx G (x3 + 1).toNatClampNeg), .int (lx G (x3 + 2).toNatClampNeg)]) (r := (r, σ)) C (kX11_personIs hx) tw_4_71 tw_4_72 tw_4_73 tw_1_1 tw_4_74 (by decide +kernel) (by decide) (by decide) rfl (Nat.le_of_ble_eq_true rfl) dL_law_428 ?_
  refine l_aload (pc := 431) C 2 dL_law_431 rfl rfl ?_
  refine l_aload (pc := 432) C 0 dL_law_432 rfl rfl ?_
  refine l_iload (pc := 433) C 3 dL_law_433 rfl rfl ?_
  refine l_iconst (v := 1) (pc := 434) C dL_law_434 (by decide) ?_
  refine l_iadd (pc := 435) C dL_law_435 ?_
  refine l_sld (pc := 436) C hin1 dL_law_436 ?_
  refine l_aload (pc := 437) C 0 dL_law_437 rfl rfl ?_
  refine l_iload (pc := 438) C 3 dL_law_438 rfl rfl ?_
  refine l_iconst (v := 2) (pc := 439) C dL_law_439 (by decide) ?_
  refine l_iadd (pc := 440) C dL_law_440 ?_
  refine l_sld (pc := 441) C hin2 dL_law_441 ?_
  refine l_callM (pc := 442) (n := 2) (as := [.int (lx G (x3 + 1).toNatClampNeg), .int (lx G (x3 + 2).toNatClampNeg)]) (r := (r, τ)) C (kX12_personIs hy) tw_7_6 tw_7_7 tw_7_8 tw_1_13 tw_7_9 (by decide +kernel) (by decide) (by decide) rfl (Nat.le_of_ble_eq_true rfl) dL_law_442 ?_
  refine l_same (tgt := 1132) (pc := 445) C dL_law_445 (by decide) ?_
  exact kk _ _ hI2
set_option maxHeartbeats 4000000 in
set_option maxRecDepth 100000 in
theorem law_loanIs {G : lG} (C : lc G) {F : Nat} {I : jS → jS → Prop} (hs : S_loanIs F I) {x3 : Int32} (hin1 : vp_in (x3 + 1) (lL G)) (hin2 : vp_in (x3 + 2) (lL G)) {σ τ : jS} (hI : I σ τ) (kk : ∀ σ τ, I σ τ → lJ G 1132 [(0, .ref (lb G)), (1, .ref (vad (l1 G) 0)), (2, .ref (vad (l2 G) 0)), (3, .int x3)] [] σ τ) : lJ G 450 [(0, .ref (lb G)), (1, .ref (vad (l1 G) 0)), (2, .ref (vad (l2 G) 0)), (3, .int x3)] [] σ τ := by
  obtain ⟨r, hx, hy, hI2⟩ := hs σ τ (lx G (x3 + 1).toNatClampNeg) (lx G (x3 + 2).toNatClampNeg) hI
  refine l_aload (pc := 450) C 1 dL_law_450 rfl rfl ?_
  refine l_aload (pc := 451) C 0 dL_law_451 rfl rfl ?_
  refine l_iload (pc := 452) C 3 dL_law_452 rfl rfl ?_
  refine l_iconst (v := 1) (pc := 453) C dL_law_453 (by decide) ?_
  refine l_iadd (pc := 454) C dL_law_454 ?_
  refine l_sld (pc := 455) C hin1 dL_law_455 ?_
  refine l_aload (pc := 456) C 0 dL_law_456 rfl rfl ?_
  refine l_iload (pc := 457) C 3 dL_law_457 rfl rfl ?_
  refine l_iconst (v := 2) (pc := 458) C dL_law_458 (by decide) ?_
  refine l_iadd (pc := 459) C dL_law_459 ?_
  refine l_sld (pc := 460) C hin2 dL_law_460 ?_
  refine l_callX (pc := 461) (n := 2) (as := [.int (lx G (x3 + 1).toNatClampNeg), .int (lx G (x3 + 2).toNatClampNeg)]) (r := (r, σ)) C (kX11_loanIs hx) tw_4_85 tw_4_86 tw_4_87 tw_1_1 tw_4_88 (by decide +kernel) (by decide) (by decide) rfl (Nat.le_of_ble_eq_true rfl) dL_law_461 ?_
  refine l_aload (pc := 464) C 2 dL_law_464 rfl rfl ?_
  refine l_aload (pc := 465) C 0 dL_law_465 rfl rfl ?_
  refine l_iload (pc := 466) C 3 dL_law_466 rfl rfl ?_
  refine l_iconst (v := 1) (pc := 467) C dL_law_467 (by decide) ?_
  refine l_iadd (pc := 468) C dL_law_468 ?_
  refine l_sld (pc := 469) C hin1 dL_law_469 ?_
  refine l_aload (pc := 470) C 0 dL_law_470 rfl rfl ?_
  refine l_iload (pc := 471) C 3 dL_law_471 rfl rfl ?_
  refine l_iconst (v := 2) (pc := 472) C dL_law_472 (by decide) ?_
  refine l_iadd (pc := 473) C dL_law_473 ?_
  refine l_sld (pc := 474) C hin2 dL_law_474 ?_
  refine l_callM (pc := 475) (n := 2) (as := [.int (lx G (x3 + 1).toNatClampNeg), .int (lx G (x3 + 2).toNatClampNeg)]) (r := (r, τ)) C (kX12_loanIs hy) tw_7_15 tw_7_16 tw_7_17 tw_1_13 tw_7_18 (by decide +kernel) (by decide) (by decide) rfl (Nat.le_of_ble_eq_true rfl) dL_law_475 ?_
  refine l_same (tgt := 1132) (pc := 478) C dL_law_478 (by decide) ?_
  exact kk _ _ hI2
set_option maxHeartbeats 4000000 in
set_option maxRecDepth 100000 in
theorem law_dies {G : lG} (C : lc G) {F : Nat} {I : jS → jS → Prop} (hs : S_dies F I) {x3 : Int32} (hin1 : vp_in (x3 + 1) (lL G)) (hin2 : vp_in (x3 + 2) (lL G)) {σ τ : jS} (hI : I σ τ) (kk : ∀ σ τ, I σ τ → lJ G 1132 [(0, .ref (lb G)), (1, .ref (vad (l1 G) 0)), (2, .ref (vad (l2 G) 0)), (3, .int x3)] [] σ τ) : lJ G 483 [(0, .ref (lb G)), (1, .ref (vad (l1 G) 0)), (2, .ref (vad (l2 G) 0)), (3, .int x3)] [] σ τ := by
  obtain ⟨r, σ2, τ2, hx, hy, hI2⟩ := hs σ τ (lx G (x3 + 1).toNatClampNeg) (lx G (x3 + 2).toNatClampNeg) hI
  refine l_aload (pc := 483) C 1 dL_law_483 rfl rfl ?_
  refine l_aload (pc := 484) C 0 dL_law_484 rfl rfl ?_
  refine l_iload (pc := 485) C 3 dL_law_485 rfl rfl ?_
  refine l_iconst (v := 1) (pc := 486) C dL_law_486 (by decide) ?_
  refine l_iadd (pc := 487) C dL_law_487 ?_
  refine l_sld (pc := 488) C hin1 dL_law_488 ?_
  refine l_aload (pc := 489) C 0 dL_law_489 rfl rfl ?_
  refine l_iload (pc := 490) C 3 dL_law_490 rfl rfl ?_
  refine l_iconst (v := 2) (pc := 491) C dL_law_491 (by decide) ?_
  refine l_iadd (pc := 492) C dL_law_492 ?_
  refine l_sld (pc := 493) C hin2 dL_law_493 ?_
  refine l_callX (pc := 494) (n := 2) (as := [.int (lx G (x3 + 1).toNatClampNeg), .int (lx G (x3 + 2).toNatClampNeg)]) (r := (r, σ2)) C (kX11_dies hx) tw_4_93 tw_4_94 tw_4_95 tw_1_1 tw_4_96 (by decide +kernel) (by decide) (by decide) rfl (Nat.le_of_ble_eq_true rfl) dL_law_494 ?_
  refine l_aload (pc := 497) C 2 dL_law_497 rfl rfl ?_
  refine l_aload (pc := 498) C 0 dL_law_498 rfl rfl ?_
  refine l_iload (pc := 499) C 3 dL_law_499 rfl rfl ?_
  refine l_iconst (v := 1) (pc := 500) C dL_law_500 (by decide) ?_
  refine l_iadd (pc := 501) C dL_law_501 ?_
  refine l_sld (pc := 502) C hin1 dL_law_502 ?_
  refine l_aload (pc := 503) C 0 dL_law_503 rfl rfl ?_
  refine l_iload (pc := 504) C 3 dL_law_504 rfl rfl ?_
  refine l_iconst (v := 2) (pc := 505) C dL_law_505 (by decide) ?_
  refine l_iadd (pc := 506) C dL_law_506 ?_
  refine l_sld (pc := 507) C hin2 dL_law_507 ?_
  refine l_callM (pc := 508) (n := 2) (as := [.int (lx G (x3 + 1).toNatClampNeg), .int (lx G (x3 + 2).toNatClampNeg)]) (r := (r, τ2)) C (kX12_dies hy) tw_7_2 tw_7_3 tw_7_4 tw_1_13 tw_7_5 (by decide +kernel) (by decide) (by decide) rfl (Nat.le_of_ble_eq_true rfl) dL_law_508 ?_
  refine l_same (tgt := 1132) (pc := 511) C dL_law_511 (by decide) ?_
  exact kk _ _ hI2
set_option maxHeartbeats 4000000 in
set_option maxRecDepth 100000 in
theorem law_costs {G : lG} (C : lc G) {F : Nat} {I : jS → jS → Prop} (hs : S_costs F I) {x3 : Int32} (hin1 : vp_in (x3 + 1) (lL G)) (hin2 : vp_in (x3 + 2) (lL G)) {σ τ : jS} (hI : I σ τ) (kk : ∀ σ τ, I σ τ → lJ G 1132 [(0, .ref (lb G)), (1, .ref (vad (l1 G) 0)), (2, .ref (vad (l2 G) 0)), (3, .int x3)] [] σ τ) : lJ G 516 [(0, .ref (lb G)), (1, .ref (vad (l1 G) 0)), (2, .ref (vad (l2 G) 0)), (3, .int x3)] [] σ τ := by
  obtain ⟨r, σ2, τ2, hx, hy, hI2⟩ := hs σ τ (lx G (x3 + 1).toNatClampNeg) (lx G (x3 + 2).toNatClampNeg) hI
  refine l_aload (pc := 516) C 1 dL_law_516 rfl rfl ?_
  refine l_aload (pc := 517) C 0 dL_law_517 rfl rfl ?_
  refine l_iload (pc := 518) C 3 dL_law_518 rfl rfl ?_
  refine l_iconst (v := 1) (pc := 519) C dL_law_519 (by decide) ?_
  refine l_iadd (pc := 520) C dL_law_520 ?_
  refine l_sld (pc := 521) C hin1 dL_law_521 ?_
  refine l_aload (pc := 522) C 0 dL_law_522 rfl rfl ?_
  refine l_iload (pc := 523) C 3 dL_law_523 rfl rfl ?_
  refine l_iconst (v := 2) (pc := 524) C dL_law_524 (by decide) ?_
  refine l_iadd (pc := 525) C dL_law_525 ?_
  refine l_sld (pc := 526) C hin2 dL_law_526 ?_
  refine l_callX (pc := 527) (n := 2) (as := [.int (lx G (x3 + 1).toNatClampNeg), .int (lx G (x3 + 2).toNatClampNeg)]) (r := (r, σ2)) C (kX11_costs hx) tw_4_97 tw_4_98 tw_4_99 tw_1_1 tw_4_100 (by decide +kernel) (by decide) (by decide) rfl (Nat.le_of_ble_eq_true rfl) dL_law_527 ?_
  refine l_aload (pc := 530) C 2 dL_law_530 rfl rfl ?_
  refine l_aload (pc := 531) C 0 dL_law_531 rfl rfl ?_
  refine l_iload (pc := 532) C 3 dL_law_532 rfl rfl ?_
  refine l_iconst (v := 1) (pc := 533) C dL_law_533 (by decide) ?_
  refine l_iadd (pc := 534) C dL_law_534 ?_
  refine l_sld (pc := 535) C hin1 dL_law_535 ?_
  refine l_aload (pc := 536) C 0 dL_law_536 rfl rfl ?_
  refine l_iload (pc := 537) C 3 dL_law_537 rfl rfl ?_
  refine l_iconst (v := 2) (pc := 538) C dL_law_538 (by decide) ?_
  refine l_iadd (pc := 539) C dL_law_539 ?_
  refine l_sld (pc := 540) C hin2 dL_law_540 ?_
  refine l_callM (pc := 541) (n := 2) (as := [.int (lx G (x3 + 1).toNatClampNeg), .int (lx G (x3 + 2).toNatClampNeg)]) (r := (r, τ2)) C (kX12_costs hy) tw_7_19 tw_7_20 tw_7_21 tw_1_13 tw_7_22 (by decide +kernel) (by decide) (by decide) rfl (Nat.le_of_ble_eq_true rfl) dL_law_541 ?_
  refine l_same (tgt := 1132) (pc := 544) C dL_law_544 (by decide) ?_
  exact kk _ _ hI2
set_option maxHeartbeats 4000000 in
set_option maxRecDepth 100000 in
theorem law_paidOff {G : lG} (C : lc G) {F : Nat} {I : jS → jS → Prop} (hs : S_paidOff F I) {x3 : Int32} (hin1 : vp_in (x3 + 1) (lL G)) {σ τ : jS} (hI : I σ τ) (kk : ∀ σ τ, I σ τ → lJ G 1132 [(0, .ref (lb G)), (1, .ref (vad (l1 G) 0)), (2, .ref (vad (l2 G) 0)), (3, .int x3)] [] σ τ) : lJ G 549 [(0, .ref (lb G)), (1, .ref (vad (l1 G) 0)), (2, .ref (vad (l2 G) 0)), (3, .int x3)] [] σ τ := by
  obtain ⟨r, hx, hy, hI2⟩ := hs σ τ (lx G (x3 + 1).toNatClampNeg) hI
  refine l_aload (pc := 549) C 1 dL_law_549 rfl rfl ?_
  refine l_aload (pc := 550) C 0 dL_law_550 rfl rfl ?_
  refine l_iload (pc := 551) C 3 dL_law_551 rfl rfl ?_
  refine l_iconst (v := 1) (pc := 552) C dL_law_552 (by decide) ?_
  refine l_iadd (pc := 553) C dL_law_553 ?_
  refine l_sld (pc := 554) C hin1 dL_law_554 ?_
  refine l_callX (pc := 555) (n := 1) (as := [.int (lx G (x3 + 1).toNatClampNeg)]) (r := (r, σ)) C (kX11_paidOff hx) tw_4_105 tw_4_106 tw_4_107 tw_1_1 tw_4_108 (by decide +kernel) (by decide) (by decide) rfl (Nat.le_of_ble_eq_true rfl) dL_law_555 ?_
  refine l_aload (pc := 558) C 2 dL_law_558 rfl rfl ?_
  refine l_aload (pc := 559) C 0 dL_law_559 rfl rfl ?_
  refine l_iload (pc := 560) C 3 dL_law_560 rfl rfl ?_
  refine l_iconst (v := 1) (pc := 561) C dL_law_561 (by decide) ?_
  refine l_iadd (pc := 562) C dL_law_562 ?_
  refine l_sld (pc := 563) C hin1 dL_law_563 ?_
  refine l_callM (pc := 564) (n := 1) (as := [.int (lx G (x3 + 1).toNatClampNeg)]) (r := (r, τ)) C (kX12_paidOff hy) tw_7_31 tw_7_32 tw_7_33 tw_1_13 tw_7_34 (by decide +kernel) (by decide) (by decide) rfl (Nat.le_of_ble_eq_true rfl) dL_law_564 ?_
  refine l_same (tgt := 1132) (pc := 567) C dL_law_567 (by decide) ?_
  exact kk _ _ hI2
set_option maxHeartbeats 4000000 in
set_option maxRecDepth 100000 in
theorem law_dueAfter {G : lG} (C : lc G) {F : Nat} {I : jS → jS → Prop} (hs : S_dueAfter F I) {x3 : Int32} (hin1 : vp_in (x3 + 1) (lL G)) (hin2 : vp_in (x3 + 2) (lL G)) {σ τ : jS} (hI : I σ τ) (kk : ∀ σ τ, I σ τ → lJ G 1132 [(0, .ref (lb G)), (1, .ref (vad (l1 G) 0)), (2, .ref (vad (l2 G) 0)), (3, .int x3)] [] σ τ) : lJ G 572 [(0, .ref (lb G)), (1, .ref (vad (l1 G) 0)), (2, .ref (vad (l2 G) 0)), (3, .int x3)] [] σ τ := by
  obtain ⟨r, hx, hy, hI2⟩ := hs σ τ (lx G (x3 + 1).toNatClampNeg) (lx G (x3 + 2).toNatClampNeg) hI
  refine l_aload (pc := 572) C 1 dL_law_572 rfl rfl ?_
  refine l_aload (pc := 573) C 0 dL_law_573 rfl rfl ?_
  refine l_iload (pc := 574) C 3 dL_law_574 rfl rfl ?_
  refine l_iconst (v := 1) (pc := 575) C dL_law_575 (by decide) ?_
  refine l_iadd (pc := 576) C dL_law_576 ?_
  refine l_sld (pc := 577) C hin1 dL_law_577 ?_
  refine l_aload (pc := 578) C 0 dL_law_578 rfl rfl ?_
  refine l_iload (pc := 579) C 3 dL_law_579 rfl rfl ?_
  refine l_iconst (v := 2) (pc := 580) C dL_law_580 (by decide) ?_
  refine l_iadd (pc := 581) C dL_law_581 ?_
  refine l_sld (pc := 582) C hin2 dL_law_582 ?_
  refine l_callX (pc := 583) (n := 2) (as := [.int (lx G (x3 + 1).toNatClampNeg), .int (lx G (x3 + 2).toNatClampNeg)]) (r := (r, σ)) C (kX11_dueAfter hx) tw_4_114 tw_4_115 tw_4_116 tw_1_1 tw_4_117 (by decide +kernel) (by decide) (by decide) rfl (Nat.le_of_ble_eq_true rfl) dL_law_583 ?_
  refine l_aload (pc := 586) C 2 dL_law_586 rfl rfl ?_
  refine l_aload (pc := 587) C 0 dL_law_587 rfl rfl ?_
  refine l_iload (pc := 588) C 3 dL_law_588 rfl rfl ?_
  refine l_iconst (v := 1) (pc := 589) C dL_law_589 (by decide) ?_
  refine l_iadd (pc := 590) C dL_law_590 ?_
  refine l_sld (pc := 591) C hin1 dL_law_591 ?_
  refine l_aload (pc := 592) C 0 dL_law_592 rfl rfl ?_
  refine l_iload (pc := 593) C 3 dL_law_593 rfl rfl ?_
  refine l_iconst (v := 2) (pc := 594) C dL_law_594 (by decide) ?_
  refine l_iadd (pc := 595) C dL_law_595 ?_
  refine l_sld (pc := 596) C hin2 dL_law_596 ?_
  refine l_callM (pc := 597) (n := 2) (as := [.int (lx G (x3 + 1).toNatClampNeg), .int (lx G (x3 + 2).toNatClampNeg)]) (r := (r, τ)) C (kX12_dueAfter hy) tw_7_38 tw_7_39 tw_7_40 tw_1_13 tw_7_41 (by decide +kernel) (by decide) (by decide) rfl (Nat.le_of_ble_eq_true rfl) dL_law_597 ?_
  refine l_same (tgt := 1132) (pc := 600) C dL_law_600 (by decide) ?_
  exact kk _ _ hI2
set_option maxHeartbeats 4000000 in
set_option maxRecDepth 100000 in
theorem law_hiccups {G : lG} (C : lc G) {F : Nat} {I : jS → jS → Prop} (hs : S_hiccups F I) {x3 : Int32} (hin1 : vp_in (x3 + 1) (lL G)) (hin2 : vp_in (x3 + 2) (lL G)) {σ τ : jS} (hI : I σ τ) (kk : ∀ σ τ, I σ τ → lJ G 1132 [(0, .ref (lb G)), (1, .ref (vad (l1 G) 0)), (2, .ref (vad (l2 G) 0)), (3, .int x3)] [] σ τ) : lJ G 605 [(0, .ref (lb G)), (1, .ref (vad (l1 G) 0)), (2, .ref (vad (l2 G) 0)), (3, .int x3)] [] σ τ := by
  obtain ⟨r, hx, hy, hI2⟩ := hs σ τ (lx G (x3 + 1).toNatClampNeg) (lx G (x3 + 2).toNatClampNeg) hI
  refine l_aload (pc := 605) C 1 dL_law_605 rfl rfl ?_
  refine l_aload (pc := 606) C 0 dL_law_606 rfl rfl ?_
  refine l_iload (pc := 607) C 3 dL_law_607 rfl rfl ?_
  refine l_iconst (v := 1) (pc := 608) C dL_law_608 (by decide) ?_
  refine l_iadd (pc := 609) C dL_law_609 ?_
  refine l_sld (pc := 610) C hin1 dL_law_610 ?_
  refine l_aload (pc := 611) C 0 dL_law_611 rfl rfl ?_
  refine l_iload (pc := 612) C 3 dL_law_612 rfl rfl ?_
  refine l_iconst (v := 2) (pc := 613) C dL_law_613 (by decide) ?_
  refine l_iadd (pc := 614) C dL_law_614 ?_
  refine l_sld (pc := 615) C hin2 dL_law_615 ?_
  refine l_callX (pc := 616) (n := 2) (as := [.int (lx G (x3 + 1).toNatClampNeg), .int (lx G (x3 + 2).toNatClampNeg)]) (r := (r, σ)) C (kX11_hiccups hx) tw_4_118 tw_4_119 tw_4_120 tw_1_1 tw_4_121 (by decide +kernel) (by decide) (by decide) rfl (Nat.le_of_ble_eq_true rfl) dL_law_616 ?_
  refine l_aload (pc := 619) C 2 dL_law_619 rfl rfl ?_
  refine l_aload (pc := 620) C 0 dL_law_620 rfl rfl ?_
  refine l_iload (pc := 621) C 3 dL_law_621 rfl rfl ?_
  refine l_iconst (v := 1) (pc := 622) C dL_law_622 (by decide) ?_
  refine l_iadd (pc := 623) C dL_law_623 ?_
  refine l_sld (pc := 624) C hin1 dL_law_624 ?_
  refine l_aload (pc := 625) C 0 dL_law_625 rfl rfl ?_
  refine l_iload (pc := 626) C 3 dL_law_626 rfl rfl ?_
  refine l_iconst (v := 2) (pc := 627) C dL_law_627 (by decide) ?_
  refine l_iadd (pc := 628) C dL_law_628 ?_
  refine l_sld (pc := 629) C hin2 dL_law_629 ?_
  refine l_callM (pc := 630) (n := 2) (as := [.int (lx G (x3 + 1).toNatClampNeg), .int (lx G (x3 + 2).toNatClampNeg)]) (r := (r, τ)) C (kX12_hiccups hy) tw_7_42 tw_7_43 tw_7_44 tw_1_13 tw_7_45 (by decide +kernel) (by decide) (by decide) rfl (Nat.le_of_ble_eq_true rfl) dL_law_630 ?_
  refine l_same (tgt := 1132) (pc := 633) C dL_law_633 (by decide) ?_
  exact kk _ _ hI2
set_option maxHeartbeats 4000000 in
set_option maxRecDepth 100000 in
theorem law_left {G : lG} (C : lc G) {F : Nat} {I : jS → jS → Prop} (hs : S_left F I) {x3 : Int32} (hin1 : vp_in (x3 + 1) (lL G)) {σ τ : jS} (hI : I σ τ) (kk : ∀ σ τ, I σ τ → lJ G 1132 [(0, .ref (lb G)), (1, .ref (vad (l1 G) 0)), (2, .ref (vad (l2 G) 0)), (3, .int x3)] [] σ τ) : lJ G 638 [(0, .ref (lb G)), (1, .ref (vad (l1 G) 0)), (2, .ref (vad (l2 G) 0)), (3, .int x3)] [] σ τ := by
  obtain ⟨r, σ2, τ2, hx, hy, hI2⟩ := hs σ τ (lx G (x3 + 1).toNatClampNeg) hI
  refine l_aload (pc := 638) C 1 dL_law_638 rfl rfl ?_
  refine l_aload (pc := 639) C 0 dL_law_639 rfl rfl ?_
  refine l_iload (pc := 640) C 3 dL_law_640 rfl rfl ?_
  refine l_iconst (v := 1) (pc := 641) C dL_law_641 (by decide) ?_
  refine l_iadd (pc := 642) C dL_law_642 ?_
  refine l_sld (pc := 643) C hin1 dL_law_643 ?_
  refine l_callX (pc := 644) (n := 1) (as := [.int (lx G (x3 + 1).toNatClampNeg)]) (r := (r, σ2)) C (kX11_left hx) tw_4_127 tw_4_128 tw_4_129 tw_1_1 tw_4_130 (by decide +kernel) (by decide) (by decide) rfl (Nat.le_of_ble_eq_true rfl) dL_law_644 ?_
  refine l_aload (pc := 647) C 2 dL_law_647 rfl rfl ?_
  refine l_aload (pc := 648) C 0 dL_law_648 rfl rfl ?_
  refine l_iload (pc := 649) C 3 dL_law_649 rfl rfl ?_
  refine l_iconst (v := 1) (pc := 650) C dL_law_650 (by decide) ?_
  refine l_iadd (pc := 651) C dL_law_651 ?_
  refine l_sld (pc := 652) C hin1 dL_law_652 ?_
  refine l_callM (pc := 653) (n := 1) (as := [.int (lx G (x3 + 1).toNatClampNeg)]) (r := (r, τ2)) C (kX12_left hy) tw_7_58 tw_7_59 tw_7_60 tw_1_13 tw_7_61 (by decide +kernel) (by decide) (by decide) rfl (Nat.le_of_ble_eq_true rfl) dL_law_653 ?_
  refine l_same (tgt := 1132) (pc := 656) C dL_law_656 (by decide) ?_
  exact kk _ _ hI2
set_option maxHeartbeats 4000000 in
set_option maxRecDepth 100000 in
theorem law_longest {G : lG} (C : lc G) {F : Nat} {I : jS → jS → Prop} (hs : S_longest F I) {x3 : Int32} {σ τ : jS} (hI : I σ τ) (kk : ∀ σ τ, I σ τ → lJ G 1132 [(0, .ref (lb G)), (1, .ref (vad (l1 G) 0)), (2, .ref (vad (l2 G) 0)), (3, .int x3)] [] σ τ) : lJ G 661 [(0, .ref (lb G)), (1, .ref (vad (l1 G) 0)), (2, .ref (vad (l2 G) 0)), (3, .int x3)] [] σ τ := by
  obtain ⟨r, σ2, τ2, hx, hy, hI2⟩ := hs σ τ  hI
  refine l_aload (pc := 661) C 1 dL_law_661 rfl rfl ?_
  refine l_callX (pc := 662) (n := 0) (as := []) (r := (r, σ2)) C (kX11_longest hx) tw_4_135 tw_4_136 tw_4_137 tw_1_1 tw_4_138 (by decide +kernel) (by decide) (by decide) rfl (Nat.le_of_ble_eq_true rfl) dL_law_662 ?_
  refine l_aload (pc := 665) C 2 dL_law_665 rfl rfl ?_
  refine l_callM (pc := 666) (n := 0) (as := []) (r := (r, τ2)) C (kX12_longest hy) tw_7_62 tw_7_63 tw_7_64 tw_1_13 tw_7_65 (by decide +kernel) (by decide) (by decide) rfl (Nat.le_of_ble_eq_true rfl) dL_law_666 ?_
  refine l_same (tgt := 1132) (pc := 669) C dL_law_669 (by decide) ?_
  exact kk _ _ hI2
set_option maxHeartbeats 4000000 in
set_option maxRecDepth 100000 in
theorem law_stillest {G : lG} (C : lc G) {F : Nat} {I : jS → jS → Prop} (hs : S_stillest F I) {x3 : Int32} (hin1 : vp_in (x3 + 1) (lL G)) {σ τ : jS} (hI : I σ τ) (kk : ∀ σ τ, I σ τ → lJ G 1132 [(0, .ref (lb G)), (1, .ref (vad (l1 G) 0)), (2, .ref (vad (l2 G) 0)), (3, .int x3)] [] σ τ) : lJ G 674 [(0, .ref (lb G)), (1, .ref (vad (l1 G) 0)), (2, .ref (vad (l2 G) 0)), (3, .int x3)] [] σ τ := by
  obtain ⟨r, σ2, τ2, hx, hy, hI2⟩ := hs σ τ (lx G (x3 + 1).toNatClampNeg) hI
  refine l_aload (pc := 674) C 1 dL_law_674 rfl rfl ?_
  refine l_aload (pc := 675) C 0 dL_law_675 rfl rfl ?_
  refine l_iload (pc := 676) C 3 dL_law_676 rfl rfl ?_
  refine l_iconst (v := 1) (pc := 677) C dL_law_677 (by decide) ?_
  refine l_iadd (pc := 678) C dL_law_678 ?_
  refine l_sld (pc := 679) C hin1 dL_law_679 ?_
  refine l_callX (pc := 680) (n := 1) (as := [.int (lx G (x3 + 1).toNatClampNeg)]) (r := (r, σ2)) C (kX11_stillest hx) tw_4_139 tw_4_140 tw_4_141 tw_1_1 tw_4_142 (by decide +kernel) (by decide) (by decide) rfl (Nat.le_of_ble_eq_true rfl) dL_law_680 ?_
  refine l_aload (pc := 683) C 2 dL_law_683 rfl rfl ?_
  refine l_aload (pc := 684) C 0 dL_law_684 rfl rfl ?_
  refine l_iload (pc := 685) C 3 dL_law_685 rfl rfl ?_
  refine l_iconst (v := 1) (pc := 686) C dL_law_686 (by decide) ?_
  refine l_iadd (pc := 687) C dL_law_687 ?_
  refine l_sld (pc := 688) C hin1 dL_law_688 ?_
  refine l_callM (pc := 689) (n := 1) (as := [.int (lx G (x3 + 1).toNatClampNeg)]) (r := (r, τ2)) C (kX12_stillest hy) tw_7_67 tw_7_68 tw_7_69 tw_1_13 tw_7_70 (by decide +kernel) (by decide) (by decide) rfl (Nat.le_of_ble_eq_true rfl) dL_law_689 ?_
  refine l_same (tgt := 1132) (pc := 692) C dL_law_692 (by decide) ?_
  exact kk _ _ hI2
set_option maxHeartbeats 4000000 in
set_option maxRecDepth 100000 in
theorem law_alike {G : lG} (C : lc G) {F : Nat} {I : jS → jS → Prop} (hs : S_alike F I) {x3 : Int32} (hin1 : vp_in (x3 + 1) (lL G)) (hin2 : vp_in (x3 + 2) (lL G)) (hin3 : vp_in (x3 + 3) (lL G)) {σ τ : jS} (hI : I σ τ) (kk : ∀ σ τ, I σ τ → lJ G 1132 [(0, .ref (lb G)), (1, .ref (vad (l1 G) 0)), (2, .ref (vad (l2 G) 0)), (3, .int x3)] [] σ τ) : lJ G 697 [(0, .ref (lb G)), (1, .ref (vad (l1 G) 0)), (2, .ref (vad (l2 G) 0)), (3, .int x3)] [] σ τ := by
  obtain ⟨r, hx, hy, hI2⟩ := hs σ τ (lx G (x3 + 1).toNatClampNeg) (lx G (x3 + 2).toNatClampNeg) (lx G (x3 + 3).toNatClampNeg) hI
  refine l_aload (pc := 697) C 1 dL_law_697 rfl rfl ?_
  refine l_aload (pc := 698) C 0 dL_law_698 rfl rfl ?_
  refine l_iload (pc := 699) C 3 dL_law_699 rfl rfl ?_
  refine l_iconst (v := 1) (pc := 700) C dL_law_700 (by decide) ?_
  refine l_iadd (pc := 701) C dL_law_701 ?_
  refine l_sld (pc := 702) C hin1 dL_law_702 ?_
  refine l_aload (pc := 703) C 0 dL_law_703 rfl rfl ?_
  refine l_iload (pc := 704) C 3 dL_law_704 rfl rfl ?_
  refine l_iconst (v := 2) (pc := 705) C dL_law_705 (by decide) ?_
  refine l_iadd (pc := 706) C dL_law_706 ?_
  refine l_sld (pc := 707) C hin2 dL_law_707 ?_
  refine l_aload (pc := 708) C 0 dL_law_708 rfl rfl ?_
  refine l_iload (pc := 709) C 3 dL_law_709 rfl rfl ?_
  refine l_iconst (v := 3) (pc := 710) C dL_law_710 (by decide) ?_
  refine l_iadd (pc := 711) C dL_law_711 ?_
  refine l_sld (pc := 712) C hin3 dL_law_712 ?_
  refine l_callX (pc := 713) (n := 3) (as := [.int (lx G (x3 + 1).toNatClampNeg), .int (lx G (x3 + 2).toNatClampNeg), .int (lx G (x3 + 3).toNatClampNeg)]) (r := (r, σ)) C (kX11_alike hx) tw_4_147 tw_4_148 tw_4_149 tw_1_1 tw_4_150 (by decide +kernel) (by decide) (by decide) rfl (Nat.le_of_ble_eq_true rfl) dL_law_713 ?_
  refine l_aload (pc := 716) C 2 dL_law_716 rfl rfl ?_
  refine l_aload (pc := 717) C 0 dL_law_717 rfl rfl ?_
  refine l_iload (pc := 718) C 3 dL_law_718 rfl rfl ?_
  refine l_iconst (v := 1) (pc := 719) C dL_law_719 (by decide) ?_
  refine l_iadd (pc := 720) C dL_law_720 ?_
  refine l_sld (pc := 721) C hin1 dL_law_721 ?_
  refine l_aload (pc := 722) C 0 dL_law_722 rfl rfl ?_
  refine l_iload (pc := 723) C 3 dL_law_723 rfl rfl ?_
  refine l_iconst (v := 2) (pc := 724) C dL_law_724 (by decide) ?_
  refine l_iadd (pc := 725) C dL_law_725 ?_
  refine l_sld (pc := 726) C hin2 dL_law_726 ?_
  refine l_aload (pc := 727) C 0 dL_law_727 rfl rfl ?_
  refine l_iload (pc := 728) C 3 dL_law_728 rfl rfl ?_
  refine l_iconst (v := 3) (pc := 729) C dL_law_729 (by decide) ?_
  refine l_iadd (pc := 730) C dL_law_730 ?_
  refine l_sld (pc := 731) C hin3 dL_law_731 ?_
  refine l_callM (pc := 732) (n := 3) (as := [.int (lx G (x3 + 1).toNatClampNeg), .int (lx G (x3 + 2).toNatClampNeg), .int (lx G (x3 + 3).toNatClampNeg)]) (r := (r, τ)) C (kX12_alike hy) tw_7_75 tw_7_76 tw_7_77 tw_1_13 tw_7_78 (by decide +kernel) (by decide) (by decide) rfl (Nat.le_of_ble_eq_true rfl) dL_law_732 ?_
  refine l_same (tgt := 1132) (pc := 735) C dL_law_735 (by decide) ?_
  exact kk _ _ hI2
set_option maxHeartbeats 4000000 in
set_option maxRecDepth 100000 in
theorem law_rings {G : lG} (C : lc G) {F : Nat} {I : jS → jS → Prop} (hs : S_rings F I) {x3 : Int32} (hin1 : vp_in (x3 + 1) (lL G)) {σ τ : jS} (hI : I σ τ) (kk : ∀ σ τ, I σ τ → lJ G 1132 [(0, .ref (lb G)), (1, .ref (vad (l1 G) 0)), (2, .ref (vad (l2 G) 0)), (3, .int x3)] [] σ τ) : lJ G 740 [(0, .ref (lb G)), (1, .ref (vad (l1 G) 0)), (2, .ref (vad (l2 G) 0)), (3, .int x3)] [] σ τ := by
  obtain ⟨r, σ2, τ2, hx, hy, hI2⟩ := hs σ τ (lx G (x3 + 1).toNatClampNeg) hI
  refine l_aload (pc := 740) C 1 dL_law_740 rfl rfl ?_
  refine l_aload (pc := 741) C 0 dL_law_741 rfl rfl ?_
  refine l_iload (pc := 742) C 3 dL_law_742 rfl rfl ?_
  refine l_iconst (v := 1) (pc := 743) C dL_law_743 (by decide) ?_
  refine l_iadd (pc := 744) C dL_law_744 ?_
  refine l_sld (pc := 745) C hin1 dL_law_745 ?_
  refine l_callX (pc := 746) (n := 1) (as := [.int (lx G (x3 + 1).toNatClampNeg)]) (r := (r, σ2)) C (kX11_rings hx) tw_4_155 tw_4_156 tw_4_157 tw_1_1 tw_4_158 (by decide +kernel) (by decide) (by decide) rfl (Nat.le_of_ble_eq_true rfl) dL_law_746 ?_
  refine l_aload (pc := 749) C 2 dL_law_749 rfl rfl ?_
  refine l_aload (pc := 750) C 0 dL_law_750 rfl rfl ?_
  refine l_iload (pc := 751) C 3 dL_law_751 rfl rfl ?_
  refine l_iconst (v := 1) (pc := 752) C dL_law_752 (by decide) ?_
  refine l_iadd (pc := 753) C dL_law_753 ?_
  refine l_sld (pc := 754) C hin1 dL_law_754 ?_
  refine l_callM (pc := 755) (n := 1) (as := [.int (lx G (x3 + 1).toNatClampNeg)]) (r := (r, τ2)) C (kX12_rings hy) tw_7_83 tw_7_84 tw_7_85 tw_1_13 tw_7_86 (by decide +kernel) (by decide) (by decide) rfl (Nat.le_of_ble_eq_true rfl) dL_law_755 ?_
  refine l_same (tgt := 1132) (pc := 758) C dL_law_758 (by decide) ?_
  exact kk _ _ hI2
set_option maxHeartbeats 4000000 in
set_option maxRecDepth 100000 in
theorem law_settled {G : lG} (C : lc G) {F : Nat} {I : jS → jS → Prop} (hs : S_settled F I) {x3 : Int32} (hin1 : vp_in (x3 + 1) (lL G)) (hin2 : vp_in (x3 + 2) (lL G)) {σ τ : jS} (hI : I σ τ) (kk : ∀ σ τ, I σ τ → lJ G 1132 [(0, .ref (lb G)), (1, .ref (vad (l1 G) 0)), (2, .ref (vad (l2 G) 0)), (3, .int x3)] [] σ τ) : lJ G 763 [(0, .ref (lb G)), (1, .ref (vad (l1 G) 0)), (2, .ref (vad (l2 G) 0)), (3, .int x3)] [] σ τ := by
  obtain ⟨r, σ2, τ2, hx, hy, hI2⟩ := hs σ τ (lx G (x3 + 1).toNatClampNeg) (lx G (x3 + 2).toNatClampNeg) hI
  refine l_aload (pc := 763) C 1 dL_law_763 rfl rfl ?_
  refine l_aload (pc := 764) C 0 dL_law_764 rfl rfl ?_
  refine l_iload (pc := 765) C 3 dL_law_765 rfl rfl ?_
  refine l_iconst (v := 1) (pc := 766) C dL_law_766 (by decide) ?_
  refine l_iadd (pc := 767) C dL_law_767 ?_
  refine l_sld (pc := 768) C hin1 dL_law_768 ?_
  refine l_aload (pc := 769) C 0 dL_law_769 rfl rfl ?_
  refine l_iload (pc := 770) C 3 dL_law_770 rfl rfl ?_
  refine l_iconst (v := 2) (pc := 771) C dL_law_771 (by decide) ?_
  refine l_iadd (pc := 772) C dL_law_772 ?_
  refine l_sld (pc := 773) C hin2 dL_law_773 ?_
  refine l_callX (pc := 774) (n := 2) (as := [.int (lx G (x3 + 1).toNatClampNeg), .int (lx G (x3 + 2).toNatClampNeg)]) (r := (r, σ2)) C (kX11_settled hx) tw_4_171 tw_4_172 tw_4_173 tw_1_1 tw_4_174 (by decide +kernel) (by decide) (by decide) rfl (Nat.le_of_ble_eq_true rfl) dL_law_774 ?_
  refine l_aload (pc := 777) C 2 dL_law_777 rfl rfl ?_
  refine l_aload (pc := 778) C 0 dL_law_778 rfl rfl ?_
  refine l_iload (pc := 779) C 3 dL_law_779 rfl rfl ?_
  refine l_iconst (v := 1) (pc := 780) C dL_law_780 (by decide) ?_
  refine l_iadd (pc := 781) C dL_law_781 ?_
  refine l_sld (pc := 782) C hin1 dL_law_782 ?_
  refine l_aload (pc := 783) C 0 dL_law_783 rfl rfl ?_
  refine l_iload (pc := 784) C 3 dL_law_784 rfl rfl ?_
  refine l_iconst (v := 2) (pc := 785) C dL_law_785 (by decide) ?_
  refine l_iadd (pc := 786) C dL_law_786 ?_
  refine l_sld (pc := 787) C hin2 dL_law_787 ?_
  refine l_callM (pc := 788) (n := 2) (as := [.int (lx G (x3 + 1).toNatClampNeg), .int (lx G (x3 + 2).toNatClampNeg)]) (r := (r, τ2)) C (kX12_settled hy) tw_7_99 tw_7_100 tw_7_101 tw_1_13 tw_7_102 (by decide +kernel) (by decide) (by decide) rfl (Nat.le_of_ble_eq_true rfl) dL_law_788 ?_
  refine l_same (tgt := 1132) (pc := 791) C dL_law_791 (by decide) ?_
  exact kk _ _ hI2
set_option maxHeartbeats 4000000 in
set_option maxRecDepth 100000 in
theorem law_joy {G : lG} (C : lc G) {F : Nat} {I : jS → jS → Prop} (hs : S_joy F I) {x3 : Int32} (hin1 : vp_in (x3 + 1) (lL G)) (hin2 : vp_in (x3 + 2) (lL G)) (hin3 : vp_in (x3 + 3) (lL G)) {σ τ : jS} (hI : I σ τ) (kk : ∀ σ τ, I σ τ → lJ G 1132 [(0, .ref (lb G)), (1, .ref (vad (l1 G) 0)), (2, .ref (vad (l2 G) 0)), (3, .int x3)] [] σ τ) : lJ G 796 [(0, .ref (lb G)), (1, .ref (vad (l1 G) 0)), (2, .ref (vad (l2 G) 0)), (3, .int x3)] [] σ τ := by
  obtain ⟨r, σ2, τ2, hx, hy, hI2⟩ := hs σ τ (lx G (x3 + 1).toNatClampNeg) (lx G (x3 + 2).toNatClampNeg) (lx G (x3 + 3).toNatClampNeg) hI
  refine l_aload (pc := 796) C 1 dL_law_796 rfl rfl ?_
  refine l_aload (pc := 797) C 0 dL_law_797 rfl rfl ?_
  refine l_iload (pc := 798) C 3 dL_law_798 rfl rfl ?_
  refine l_iconst (v := 1) (pc := 799) C dL_law_799 (by decide) ?_
  refine l_iadd (pc := 800) C dL_law_800 ?_
  refine l_sld (pc := 801) C hin1 dL_law_801 ?_
  refine l_aload (pc := 802) C 0 dL_law_802 rfl rfl ?_
  refine l_iload (pc := 803) C 3 dL_law_803 rfl rfl ?_
  refine l_iconst (v := 2) (pc := 804) C dL_law_804 (by decide) ?_
  refine l_iadd (pc := 805) C dL_law_805 ?_
  refine l_sld (pc := 806) C hin2 dL_law_806 ?_
  refine l_aload (pc := 807) C 0 dL_law_807 rfl rfl ?_
  refine l_iload (pc := 808) C 3 dL_law_808 rfl rfl ?_
  refine l_iconst (v := 3) (pc := 809) C dL_law_809 (by decide) ?_
  refine l_iadd (pc := 810) C dL_law_810 ?_
  refine l_sld (pc := 811) C hin3 dL_law_811 ?_
  refine l_callX (pc := 812) (n := 3) (as := [.int (lx G (x3 + 1).toNatClampNeg), .int (lx G (x3 + 2).toNatClampNeg), .int (lx G (x3 + 3).toNatClampNeg)]) (r := (r, σ2)) C (kX11_joy hx) tw_4_198 tw_4_199 tw_4_200 tw_1_1 tw_4_201 (by decide +kernel) (by decide) (by decide) rfl (Nat.le_of_ble_eq_true rfl) dL_law_812 ?_
  refine l_aload (pc := 815) C 2 dL_law_815 rfl rfl ?_
  refine l_aload (pc := 816) C 0 dL_law_816 rfl rfl ?_
  refine l_iload (pc := 817) C 3 dL_law_817 rfl rfl ?_
  refine l_iconst (v := 1) (pc := 818) C dL_law_818 (by decide) ?_
  refine l_iadd (pc := 819) C dL_law_819 ?_
  refine l_sld (pc := 820) C hin1 dL_law_820 ?_
  refine l_aload (pc := 821) C 0 dL_law_821 rfl rfl ?_
  refine l_iload (pc := 822) C 3 dL_law_822 rfl rfl ?_
  refine l_iconst (v := 2) (pc := 823) C dL_law_823 (by decide) ?_
  refine l_iadd (pc := 824) C dL_law_824 ?_
  refine l_sld (pc := 825) C hin2 dL_law_825 ?_
  refine l_aload (pc := 826) C 0 dL_law_826 rfl rfl ?_
  refine l_iload (pc := 827) C 3 dL_law_827 rfl rfl ?_
  refine l_iconst (v := 3) (pc := 828) C dL_law_828 (by decide) ?_
  refine l_iadd (pc := 829) C dL_law_829 ?_
  refine l_sld (pc := 830) C hin3 dL_law_830 ?_
  refine l_callM (pc := 831) (n := 3) (as := [.int (lx G (x3 + 1).toNatClampNeg), .int (lx G (x3 + 2).toNatClampNeg), .int (lx G (x3 + 3).toNatClampNeg)]) (r := (r, τ2)) C (kX12_joy hy) tw_7_116 tw_7_117 tw_7_118 tw_1_13 tw_7_119 (by decide +kernel) (by decide) (by decide) rfl (Nat.le_of_ble_eq_true rfl) dL_law_831 ?_
  refine l_same (tgt := 1132) (pc := 834) C dL_law_834 (by decide) ?_
  exact kk _ _ hI2
set_option maxHeartbeats 4000000 in
set_option maxRecDepth 100000 in
theorem law_run {G : lG} (C : lc G) {F : Nat} {I : jS → jS → Prop} (hs : S_run F I) {x3 : Int32} (hin1 : vp_in (x3 + 1) (lL G)) (hin2 : vp_in (x3 + 2) (lL G)) {σ τ : jS} (hI : I σ τ) (kk : ∀ σ τ, I σ τ → lJ G 1132 [(0, .ref (lb G)), (1, .ref (vad (l1 G) 0)), (2, .ref (vad (l2 G) 0)), (3, .int x3)] [] σ τ) : lJ G 839 [(0, .ref (lb G)), (1, .ref (vad (l1 G) 0)), (2, .ref (vad (l2 G) 0)), (3, .int x3)] [] σ τ := by
  obtain ⟨r, σ2, τ2, hx, hy, hI2⟩ := hs σ τ (lx G (x3 + 1).toNatClampNeg) (lx G (x3 + 2).toNatClampNeg) hI
  refine l_aload (pc := 839) C 1 dL_law_839 rfl rfl ?_
  refine l_aload (pc := 840) C 0 dL_law_840 rfl rfl ?_
  refine l_iload (pc := 841) C 3 dL_law_841 rfl rfl ?_
  refine l_iconst (v := 1) (pc := 842) C dL_law_842 (by decide) ?_
  refine l_iadd (pc := 843) C dL_law_843 ?_
  refine l_sld (pc := 844) C hin1 dL_law_844 ?_
  refine l_aload (pc := 845) C 0 dL_law_845 rfl rfl ?_
  refine l_iload (pc := 846) C 3 dL_law_846 rfl rfl ?_
  refine l_iconst (v := 2) (pc := 847) C dL_law_847 (by decide) ?_
  refine l_iadd (pc := 848) C dL_law_848 ?_
  refine l_sld (pc := 849) C hin2 dL_law_849 ?_
  refine l_callX (pc := 850) (n := 2) (as := [.int (lx G (x3 + 1).toNatClampNeg), .int (lx G (x3 + 2).toNatClampNeg)]) (r := (r, σ2)) C (kX11_run hx) tw_4_221 tw_4_222 tw_4_223 tw_1_1 tw_4_224 (by decide +kernel) (by decide) (by decide) rfl (Nat.le_of_ble_eq_true rfl) dL_law_850 ?_
  refine l_aload (pc := 853) C 2 dL_law_853 rfl rfl ?_
  refine l_aload (pc := 854) C 0 dL_law_854 rfl rfl ?_
  refine l_iload (pc := 855) C 3 dL_law_855 rfl rfl ?_
  refine l_iconst (v := 1) (pc := 856) C dL_law_856 (by decide) ?_
  refine l_iadd (pc := 857) C dL_law_857 ?_
  refine l_sld (pc := 858) C hin1 dL_law_858 ?_
  refine l_aload (pc := 859) C 0 dL_law_859 rfl rfl ?_
  refine l_iload (pc := 860) C 3 dL_law_860 rfl rfl ?_
  refine l_iconst (v := 2) (pc := 861) C dL_law_861 (by decide) ?_
  refine l_iadd (pc := 862) C dL_law_862 ?_
  refine l_sld (pc := 863) C hin2 dL_law_863 ?_
  refine l_callM (pc := 864) (n := 2) (as := [.int (lx G (x3 + 1).toNatClampNeg), .int (lx G (x3 + 2).toNatClampNeg)]) (r := (r, τ2)) C (kX12_run hy) tw_7_128 tw_7_129 tw_7_130 tw_1_13 tw_7_131 (by decide +kernel) (by decide) (by decide) rfl (Nat.le_of_ble_eq_true rfl) dL_law_864 ?_
  refine l_same (tgt := 1132) (pc := 867) C dL_law_867 (by decide) ?_
  exact kk _ _ hI2
set_option maxHeartbeats 4000000 in
set_option maxRecDepth 100000 in
theorem law_table {G : lG} (C : lc G) {F : Nat} {I : jS → jS → Prop} (hs : S_table F I) {x3 : Int32} (hin1 : vp_in (x3 + 1) (lL G)) (hin2 : vp_in (x3 + 2) (lL G)) {σ τ : jS} (hI : I σ τ) (kk : ∀ σ τ, I σ τ → lJ G 1132 [(0, .ref (lb G)), (1, .ref (vad (l1 G) 0)), (2, .ref (vad (l2 G) 0)), (3, .int x3)] [] σ τ) : lJ G 872 [(0, .ref (lb G)), (1, .ref (vad (l1 G) 0)), (2, .ref (vad (l2 G) 0)), (3, .int x3)] [] σ τ := by
  obtain ⟨r, σ2, τ2, hx, hy, hI2⟩ := hs σ τ (lx G (x3 + 1).toNatClampNeg) (lx G (x3 + 2).toNatClampNeg) hI
  refine l_aload (pc := 872) C 1 dL_law_872 rfl rfl ?_
  refine l_aload (pc := 873) C 0 dL_law_873 rfl rfl ?_
  refine l_iload (pc := 874) C 3 dL_law_874 rfl rfl ?_
  refine l_iconst (v := 1) (pc := 875) C dL_law_875 (by decide) ?_
  refine l_iadd (pc := 876) C dL_law_876 ?_
  refine l_sld (pc := 877) C hin1 dL_law_877 ?_
  refine l_aload (pc := 878) C 0 dL_law_878 rfl rfl ?_
  refine l_iload (pc := 879) C 3 dL_law_879 rfl rfl ?_
  refine l_iconst (v := 2) (pc := 880) C dL_law_880 (by decide) ?_
  refine l_iadd (pc := 881) C dL_law_881 ?_
  refine l_sld (pc := 882) C hin2 dL_law_882 ?_
  refine l_callX (pc := 883) (n := 2) (as := [.int (lx G (x3 + 1).toNatClampNeg), .int (lx G (x3 + 2).toNatClampNeg)]) (r := (r, σ2)) C (kX11_table hx) tw_4_230 tw_4_231 tw_4_232 tw_1_1 tw_4_233 (by decide +kernel) (by decide) (by decide) rfl (Nat.le_of_ble_eq_true rfl) dL_law_883 ?_
  refine l_aload (pc := 886) C 2 dL_law_886 rfl rfl ?_
  refine l_aload (pc := 887) C 0 dL_law_887 rfl rfl ?_
  refine l_iload (pc := 888) C 3 dL_law_888 rfl rfl ?_
  refine l_iconst (v := 1) (pc := 889) C dL_law_889 (by decide) ?_
  refine l_iadd (pc := 890) C dL_law_890 ?_
  refine l_sld (pc := 891) C hin1 dL_law_891 ?_
  refine l_aload (pc := 892) C 0 dL_law_892 rfl rfl ?_
  refine l_iload (pc := 893) C 3 dL_law_893 rfl rfl ?_
  refine l_iconst (v := 2) (pc := 894) C dL_law_894 (by decide) ?_
  refine l_iadd (pc := 895) C dL_law_895 ?_
  refine l_sld (pc := 896) C hin2 dL_law_896 ?_
  refine l_callM (pc := 897) (n := 2) (as := [.int (lx G (x3 + 1).toNatClampNeg), .int (lx G (x3 + 2).toNatClampNeg)]) (r := (r, τ2)) C (kX12_table hy) tw_7_135 tw_7_136 tw_7_137 tw_1_13 tw_7_138 (by decide +kernel) (by decide) (by decide) rfl (Nat.le_of_ble_eq_true rfl) dL_law_897 ?_
  refine l_same (tgt := 1132) (pc := 900) C dL_law_900 (by decide) ?_
  exact kk _ _ hI2
set_option maxHeartbeats 4000000 in
set_option maxRecDepth 100000 in
theorem law_atOnce {G : lG} (C : lc G) {F : Nat} {I : jS → jS → Prop} (hs : S_atOnce F I) {x3 : Int32} (hin1 : vp_in (x3 + 1) (lL G)) (hin2 : vp_in (x3 + 2) (lL G)) {σ τ : jS} (hI : I σ τ) (kk : ∀ σ τ, I σ τ → lJ G 1132 [(0, .ref (lb G)), (1, .ref (vad (l1 G) 0)), (2, .ref (vad (l2 G) 0)), (3, .int x3)] [] σ τ) : lJ G 905 [(0, .ref (lb G)), (1, .ref (vad (l1 G) 0)), (2, .ref (vad (l2 G) 0)), (3, .int x3)] [] σ τ := by
  obtain ⟨r, σ2, τ2, hx, hy, hI2⟩ := hs σ τ (lx G (x3 + 1).toNatClampNeg) (lx G (x3 + 2).toNatClampNeg) hI
  refine l_aload (pc := 905) C 1 dL_law_905 rfl rfl ?_
  refine l_aload (pc := 906) C 0 dL_law_906 rfl rfl ?_
  refine l_iload (pc := 907) C 3 dL_law_907 rfl rfl ?_
  refine l_iconst (v := 1) (pc := 908) C dL_law_908 (by decide) ?_
  refine l_iadd (pc := 909) C dL_law_909 ?_
  refine l_sld (pc := 910) C hin1 dL_law_910 ?_
  refine l_aload (pc := 911) C 0 dL_law_911 rfl rfl ?_
  refine l_iload (pc := 912) C 3 dL_law_912 rfl rfl ?_
  refine l_iconst (v := 2) (pc := 913) C dL_law_913 (by decide) ?_
  refine l_iadd (pc := 914) C dL_law_914 ?_
  refine l_sld (pc := 915) C hin2 dL_law_915 ?_
  refine l_callX (pc := 916) (n := 2) (as := [.int (lx G (x3 + 1).toNatClampNeg), .int (lx G (x3 + 2).toNatClampNeg)]) (r := (r, σ2)) C (kX11_atOnce hx) tw_5_9 tw_5_10 tw_5_11 tw_1_1 tw_5_12 (by decide +kernel) (by decide) (by decide) rfl (Nat.le_of_ble_eq_true rfl) dL_law_916 ?_
  refine l_aload (pc := 919) C 2 dL_law_919 rfl rfl ?_
  refine l_aload (pc := 920) C 0 dL_law_920 rfl rfl ?_
  refine l_iload (pc := 921) C 3 dL_law_921 rfl rfl ?_
  refine l_iconst (v := 1) (pc := 922) C dL_law_922 (by decide) ?_
  refine l_iadd (pc := 923) C dL_law_923 ?_
  refine l_sld (pc := 924) C hin1 dL_law_924 ?_
  refine l_aload (pc := 925) C 0 dL_law_925 rfl rfl ?_
  refine l_iload (pc := 926) C 3 dL_law_926 rfl rfl ?_
  refine l_iconst (v := 2) (pc := 927) C dL_law_927 (by decide) ?_
  refine l_iadd (pc := 928) C dL_law_928 ?_
  refine l_sld (pc := 929) C hin2 dL_law_929 ?_
  refine l_callM (pc := 930) (n := 2) (as := [.int (lx G (x3 + 1).toNatClampNeg), .int (lx G (x3 + 2).toNatClampNeg)]) (r := (r, τ2)) C (kX12_atOnce hy) tw_7_150 tw_7_151 tw_7_152 tw_1_13 tw_7_153 (by decide +kernel) (by decide) (by decide) rfl (Nat.le_of_ble_eq_true rfl) dL_law_930 ?_
  refine l_same (tgt := 1132) (pc := 933) C dL_law_933 (by decide) ?_
  exact kk _ _ hI2
set_option maxHeartbeats 4000000 in
set_option maxRecDepth 100000 in
theorem law_pulse {G : lG} (C : lc G) {F : Nat} {I : jS → jS → Prop} (hs : S_pulse F I) {x3 : Int32} (hin1 : vp_in (x3 + 1) (lL G)) (hin2 : vp_in (x3 + 2) (lL G)) {σ τ : jS} (hI : I σ τ) (kk : ∀ σ τ, I σ τ → lJ G 1132 [(0, .ref (lb G)), (1, .ref (vad (l1 G) 0)), (2, .ref (vad (l2 G) 0)), (3, .int x3)] [] σ τ) : lJ G 938 [(0, .ref (lb G)), (1, .ref (vad (l1 G) 0)), (2, .ref (vad (l2 G) 0)), (3, .int x3)] [] σ τ := by
  obtain ⟨r, σ2, τ2, hx, hy, hI2⟩ := hs σ τ (lx G (x3 + 1).toNatClampNeg) (lx G (x3 + 2).toNatClampNeg) hI
  refine l_aload (pc := 938) C 1 dL_law_938 rfl rfl ?_
  refine l_aload (pc := 939) C 0 dL_law_939 rfl rfl ?_
  refine l_iload (pc := 940) C 3 dL_law_940 rfl rfl ?_
  refine l_iconst (v := 1) (pc := 941) C dL_law_941 (by decide) ?_
  refine l_iadd (pc := 942) C dL_law_942 ?_
  refine l_sld (pc := 943) C hin1 dL_law_943 ?_
  refine l_aload (pc := 944) C 0 dL_law_944 rfl rfl ?_
  refine l_iload (pc := 945) C 3 dL_law_945 rfl rfl ?_
  refine l_iconst (v := 2) (pc := 946) C dL_law_946 (by decide) ?_
  refine l_iadd (pc := 947) C dL_law_947 ?_
  refine l_sld (pc := 948) C hin2 dL_law_948 ?_
  refine l_callX (pc := 949) (n := 2) (as := [.int (lx G (x3 + 1).toNatClampNeg), .int (lx G (x3 + 2).toNatClampNeg)]) (r := (r, σ2)) C (kX11_pulse hx) tw_5_23 tw_5_24 tw_5_25 tw_1_1 tw_5_26 (by decide +kernel) (by decide) (by decide) rfl (Nat.le_of_ble_eq_true rfl) dL_law_949 ?_
  refine l_aload (pc := 952) C 2 dL_law_952 rfl rfl ?_
  refine l_aload (pc := 953) C 0 dL_law_953 rfl rfl ?_
  refine l_iload (pc := 954) C 3 dL_law_954 rfl rfl ?_
  refine l_iconst (v := 1) (pc := 955) C dL_law_955 (by decide) ?_
  refine l_iadd (pc := 956) C dL_law_956 ?_
  refine l_sld (pc := 957) C hin1 dL_law_957 ?_
  refine l_aload (pc := 958) C 0 dL_law_958 rfl rfl ?_
  refine l_iload (pc := 959) C 3 dL_law_959 rfl rfl ?_
  refine l_iconst (v := 2) (pc := 960) C dL_law_960 (by decide) ?_
  refine l_iadd (pc := 961) C dL_law_961 ?_
  refine l_sld (pc := 962) C hin2 dL_law_962 ?_
  refine l_callM (pc := 963) (n := 2) (as := [.int (lx G (x3 + 1).toNatClampNeg), .int (lx G (x3 + 2).toNatClampNeg)]) (r := (r, τ2)) C (kX12_pulse hy) tw_7_154 tw_7_155 tw_7_156 tw_1_13 tw_7_157 (by decide +kernel) (by decide) (by decide) rfl (Nat.le_of_ble_eq_true rfl) dL_law_963 ?_
  refine l_same (tgt := 1132) (pc := 966) C dL_law_966 (by decide) ?_
  exact kk _ _ hI2
set_option maxHeartbeats 4000000 in
set_option maxRecDepth 100000 in
theorem law_stairs {G : lG} (C : lc G) {F : Nat} {I : jS → jS → Prop} (hs : S_stairs F I) {x3 : Int32} (hin1 : vp_in (x3 + 1) (lL G)) (hin2 : vp_in (x3 + 2) (lL G)) {σ τ : jS} (hI : I σ τ) (kk : ∀ σ τ, I σ τ → lJ G 1132 [(0, .ref (lb G)), (1, .ref (vad (l1 G) 0)), (2, .ref (vad (l2 G) 0)), (3, .int x3)] [] σ τ) : lJ G 971 [(0, .ref (lb G)), (1, .ref (vad (l1 G) 0)), (2, .ref (vad (l2 G) 0)), (3, .int x3)] [] σ τ := by
  obtain ⟨r, σ2, τ2, hx, hy, hI2⟩ := hs σ τ (lx G (x3 + 1).toNatClampNeg) (lx G (x3 + 2).toNatClampNeg) hI
  refine l_aload (pc := 971) C 1 dL_law_971 rfl rfl ?_
  refine l_aload (pc := 972) C 0 dL_law_972 rfl rfl ?_
  refine l_iload (pc := 973) C 3 dL_law_973 rfl rfl ?_
  refine l_iconst (v := 1) (pc := 974) C dL_law_974 (by decide) ?_
  refine l_iadd (pc := 975) C dL_law_975 ?_
  refine l_sld (pc := 976) C hin1 dL_law_976 ?_
  refine l_aload (pc := 977) C 0 dL_law_977 rfl rfl ?_
  refine l_iload (pc := 978) C 3 dL_law_978 rfl rfl ?_
  refine l_iconst (v := 2) (pc := 979) C dL_law_979 (by decide) ?_
  refine l_iadd (pc := 980) C dL_law_980 ?_
  refine l_sld (pc := 981) C hin2 dL_law_981 ?_
  refine l_callX (pc := 982) (n := 2) (as := [.int (lx G (x3 + 1).toNatClampNeg), .int (lx G (x3 + 2).toNatClampNeg)]) (r := (r, σ2)) C (kX11_stairs hx) tw_5_31 tw_5_32 tw_5_33 tw_1_1 tw_5_34 (by decide +kernel) (by decide) (by decide) rfl (Nat.le_of_ble_eq_true rfl) dL_law_982 ?_
  refine l_aload (pc := 985) C 2 dL_law_985 rfl rfl ?_
  refine l_aload (pc := 986) C 0 dL_law_986 rfl rfl ?_
  refine l_iload (pc := 987) C 3 dL_law_987 rfl rfl ?_
  refine l_iconst (v := 1) (pc := 988) C dL_law_988 (by decide) ?_
  refine l_iadd (pc := 989) C dL_law_989 ?_
  refine l_sld (pc := 990) C hin1 dL_law_990 ?_
  refine l_aload (pc := 991) C 0 dL_law_991 rfl rfl ?_
  refine l_iload (pc := 992) C 3 dL_law_992 rfl rfl ?_
  refine l_iconst (v := 2) (pc := 993) C dL_law_993 (by decide) ?_
  refine l_iadd (pc := 994) C dL_law_994 ?_
  refine l_sld (pc := 995) C hin2 dL_law_995 ?_
  refine l_callM (pc := 996) (n := 2) (as := [.int (lx G (x3 + 1).toNatClampNeg), .int (lx G (x3 + 2).toNatClampNeg)]) (r := (r, τ2)) C (kX12_stairs hy) tw_7_158 tw_7_159 tw_7_160 tw_1_13 tw_7_161 (by decide +kernel) (by decide) (by decide) rfl (Nat.le_of_ble_eq_true rfl) dL_law_996 ?_
  refine l_same (tgt := 1132) (pc := 999) C dL_law_999 (by decide) ?_
  exact kk _ _ hI2
set_option maxHeartbeats 4000000 in
set_option maxRecDepth 100000 in
theorem law_bells {G : lG} (C : lc G) {F : Nat} {I : jS → jS → Prop} (hs : S_bells F I) {x3 : Int32} (hin1 : vp_in (x3 + 1) (lL G)) (hin2 : vp_in (x3 + 2) (lL G)) {σ τ : jS} (hI : I σ τ) (kk : ∀ σ τ, I σ τ → lJ G 1132 [(0, .ref (lb G)), (1, .ref (vad (l1 G) 0)), (2, .ref (vad (l2 G) 0)), (3, .int x3)] [] σ τ) : lJ G 1004 [(0, .ref (lb G)), (1, .ref (vad (l1 G) 0)), (2, .ref (vad (l2 G) 0)), (3, .int x3)] [] σ τ := by
  obtain ⟨r, σ2, τ2, hx, hy, hI2⟩ := hs σ τ (lx G (x3 + 1).toNatClampNeg) (lx G (x3 + 2).toNatClampNeg) hI
  refine l_aload (pc := 1004) C 1 dL_law_1004 rfl rfl ?_
  refine l_aload (pc := 1005) C 0 dL_law_1005 rfl rfl ?_
  refine l_iload (pc := 1006) C 3 dL_law_1006 rfl rfl ?_
  refine l_iconst (v := 1) (pc := 1007) C dL_law_1007 (by decide) ?_
  refine l_iadd (pc := 1008) C dL_law_1008 ?_
  refine l_sld (pc := 1009) C hin1 dL_law_1009 ?_
  refine l_aload (pc := 1010) C 0 dL_law_1010 rfl rfl ?_
  refine l_iload (pc := 1011) C 3 dL_law_1011 rfl rfl ?_
  refine l_iconst (v := 2) (pc := 1012) C dL_law_1012 (by decide) ?_
  refine l_iadd (pc := 1013) C dL_law_1013 ?_
  refine l_sld (pc := 1014) C hin2 dL_law_1014 ?_
  refine l_callX (pc := 1015) (n := 2) (as := [.int (lx G (x3 + 1).toNatClampNeg), .int (lx G (x3 + 2).toNatClampNeg)]) (r := (r, σ2)) C (kX11_bells hx) tw_5_44 tw_5_45 tw_5_46 tw_1_1 tw_5_47 (by decide +kernel) (by decide) (by decide) rfl (Nat.le_of_ble_eq_true rfl) dL_law_1015 ?_
  refine l_aload (pc := 1018) C 2 dL_law_1018 rfl rfl ?_
  refine l_aload (pc := 1019) C 0 dL_law_1019 rfl rfl ?_
  refine l_iload (pc := 1020) C 3 dL_law_1020 rfl rfl ?_
  refine l_iconst (v := 1) (pc := 1021) C dL_law_1021 (by decide) ?_
  refine l_iadd (pc := 1022) C dL_law_1022 ?_
  refine l_sld (pc := 1023) C hin1 dL_law_1023 ?_
  refine l_aload (pc := 1024) C 0 dL_law_1024 rfl rfl ?_
  refine l_iload (pc := 1025) C 3 dL_law_1025 rfl rfl ?_
  refine l_iconst (v := 2) (pc := 1026) C dL_law_1026 (by decide) ?_
  refine l_iadd (pc := 1027) C dL_law_1027 ?_
  refine l_sld (pc := 1028) C hin2 dL_law_1028 ?_
  refine l_callM (pc := 1029) (n := 2) (as := [.int (lx G (x3 + 1).toNatClampNeg), .int (lx G (x3 + 2).toNatClampNeg)]) (r := (r, τ2)) C (kX12_bells hy) tw_7_167 tw_7_168 tw_7_169 tw_1_13 tw_7_170 (by decide +kernel) (by decide) (by decide) rfl (Nat.le_of_ble_eq_true rfl) dL_law_1029 ?_
  refine l_same (tgt := 1132) (pc := 1032) C dL_law_1032 (by decide) ?_
  exact kk _ _ hI2
set_option maxHeartbeats 4000000 in
set_option maxRecDepth 100000 in
theorem law_seed {G : lG} (C : lc G) {F : Nat} {I : jS → jS → Prop} (hs : S_seed F I) {x3 : Int32} (hin1 : vp_in (x3 + 1) (lL G)) {σ τ : jS} (hI : I σ τ) (kk : ∀ σ τ, I σ τ → lJ G 1132 [(0, .ref (lb G)), (1, .ref (vad (l1 G) 0)), (2, .ref (vad (l2 G) 0)), (3, .int x3)] [] σ τ) : lJ G 1037 [(0, .ref (lb G)), (1, .ref (vad (l1 G) 0)), (2, .ref (vad (l2 G) 0)), (3, .int x3)] [] σ τ := by
  obtain ⟨r, σ2, τ2, hx, hy, hI2⟩ := hs σ τ (lx G (x3 + 1).toNatClampNeg) hI
  refine l_aload (pc := 1037) C 1 dL_law_1037 rfl rfl ?_
  refine l_aload (pc := 1038) C 0 dL_law_1038 rfl rfl ?_
  refine l_iload (pc := 1039) C 3 dL_law_1039 rfl rfl ?_
  refine l_iconst (v := 1) (pc := 1040) C dL_law_1040 (by decide) ?_
  refine l_iadd (pc := 1041) C dL_law_1041 ?_
  refine l_sld (pc := 1042) C hin1 dL_law_1042 ?_
  refine l_callX (pc := 1043) (n := 1) (as := [.int (lx G (x3 + 1).toNatClampNeg)]) (r := (r, σ2)) C (kX11_seed hx) tw_5_57 tw_5_58 tw_5_59 tw_1_1 tw_5_60 (by decide +kernel) (by decide) (by decide) rfl (Nat.le_of_ble_eq_true rfl) dL_law_1043 ?_
  refine l_aload (pc := 1046) C 2 dL_law_1046 rfl rfl ?_
  refine l_aload (pc := 1047) C 0 dL_law_1047 rfl rfl ?_
  refine l_iload (pc := 1048) C 3 dL_law_1048 rfl rfl ?_
  refine l_iconst (v := 1) (pc := 1049) C dL_law_1049 (by decide) ?_
  refine l_iadd (pc := 1050) C dL_law_1050 ?_
  refine l_sld (pc := 1051) C hin1 dL_law_1051 ?_
  refine l_callM (pc := 1052) (n := 1) (as := [.int (lx G (x3 + 1).toNatClampNeg)]) (r := (r, τ2)) C (kX12_seed hy) tw_7_171 tw_7_172 tw_7_173 tw_1_13 tw_7_174 (by decide +kernel) (by decide) (by decide) rfl (Nat.le_of_ble_eq_true rfl) dL_law_1052 ?_
  refine l_same (tgt := 1132) (pc := 1055) C dL_law_1055 (by decide) ?_
  exact kk _ _ hI2
set_option maxHeartbeats 4000000 in
set_option maxRecDepth 100000 in
theorem law_keep {G : lG} (C : lc G) {F : Nat} {I : jS → jS → Prop} (hs : S_keep F I) {x3 : Int32} {σ τ : jS} (hI : I σ τ) (kk : ∀ σ τ, I σ τ → lJ G 1132 [(0, .ref (lb G)), (1, .ref (vad (l1 G) 0)), (2, .ref (vad (l2 G) 0)), (3, .int x3)] [] σ τ) : lJ G 1060 [(0, .ref (lb G)), (1, .ref (vad (l1 G) 0)), (2, .ref (vad (l2 G) 0)), (3, .int x3)] [] σ τ := by
  obtain ⟨r, σ2, τ2, hx, hy, hI2⟩ := hs σ τ  hI
  refine l_aload (pc := 1060) C 1 dL_law_1060 rfl rfl ?_
  refine l_callX (pc := 1061) (n := 0) (as := []) (r := (r, σ2)) C (kX11_keep hx) tw_5_61 tw_5_62 tw_5_63 tw_1_1 tw_5_64 (by decide +kernel) (by decide) (by decide) rfl (Nat.le_of_ble_eq_true rfl) dL_law_1061 ?_
  refine l_aload (pc := 1064) C 2 dL_law_1064 rfl rfl ?_
  refine l_callM (pc := 1065) (n := 0) (as := []) (r := (r, τ2)) C (kX12_keep hy) tw_7_175 tw_7_176 tw_7_177 tw_1_13 tw_7_178 (by decide +kernel) (by decide) (by decide) rfl (Nat.le_of_ble_eq_true rfl) dL_law_1065 ?_
  refine l_same (tgt := 1132) (pc := 1068) C dL_law_1068 (by decide) ?_
  exact kk _ _ hI2
set_option maxHeartbeats 4000000 in
set_option maxRecDepth 100000 in
theorem law_undo {G : lG} (C : lc G) {F : Nat} {I : jS → jS → Prop} (hs : S_undo F I) {x3 : Int32} {σ τ : jS} (hI : I σ τ) (kk : ∀ σ τ, I σ τ → lJ G 1132 [(0, .ref (lb G)), (1, .ref (vad (l1 G) 0)), (2, .ref (vad (l2 G) 0)), (3, .int x3)] [] σ τ) : lJ G 1073 [(0, .ref (lb G)), (1, .ref (vad (l1 G) 0)), (2, .ref (vad (l2 G) 0)), (3, .int x3)] [] σ τ := by
  obtain ⟨r, σ2, τ2, hx, hy, hI2⟩ := hs σ τ  hI
  refine l_aload (pc := 1073) C 1 dL_law_1073 rfl rfl ?_
  refine l_callX (pc := 1074) (n := 0) (as := []) (r := (r, σ2)) C (kX11_undo hx) tw_5_65 tw_5_66 tw_5_67 tw_1_1 tw_5_68 (by decide +kernel) (by decide) (by decide) rfl (Nat.le_of_ble_eq_true rfl) dL_law_1074 ?_
  refine l_aload (pc := 1077) C 2 dL_law_1077 rfl rfl ?_
  refine l_callM (pc := 1078) (n := 0) (as := []) (r := (r, τ2)) C (kX12_undo hy) tw_7_179 tw_7_180 tw_7_181 tw_1_13 tw_7_182 (by decide +kernel) (by decide) (by decide) rfl (Nat.le_of_ble_eq_true rfl) dL_law_1078 ?_
  refine l_same (tgt := 1132) (pc := 1081) C dL_law_1081 (by decide) ?_
  exact kk _ _ hI2
set_option maxHeartbeats 4000000 in
set_option maxRecDepth 100000 in
theorem law_check {G : lG} (C : lc G) {F : Nat} {I : jS → jS → Prop} (hs : S_check F I) {x3 : Int32} (hin1 : vp_in (x3 + 1) (lL G)) {σ τ : jS} (hI : I σ τ) (kk : ∀ σ τ, I σ τ → lJ G 1132 [(0, .ref (lb G)), (1, .ref (vad (l1 G) 0)), (2, .ref (vad (l2 G) 0)), (3, .int x3)] [] σ τ) : lJ G 1086 [(0, .ref (lb G)), (1, .ref (vad (l1 G) 0)), (2, .ref (vad (l2 G) 0)), (3, .int x3)] [] σ τ := by
  obtain ⟨r, σ2, τ2, hx, hy, hI2⟩ := hs σ τ (lx G (x3 + 1).toNatClampNeg) hI
  refine l_aload (pc := 1086) C 1 dL_law_1086 rfl rfl ?_
  refine l_aload (pc := 1087) C 0 dL_law_1087 rfl rfl ?_
  refine l_iload (pc := 1088) C 3 dL_law_1088 rfl rfl ?_
  refine l_iconst (v := 1) (pc := 1089) C dL_law_1089 (by decide) ?_
  refine l_iadd (pc := 1090) C dL_law_1090 ?_
  refine l_sld (pc := 1091) C hin1 dL_law_1091 ?_
  refine l_callX (pc := 1092) (n := 1) (as := [.int (lx G (x3 + 1).toNatClampNeg)]) (r := (r, σ2)) C (kX11_check hx) tw_5_69 tw_5_70 tw_5_71 tw_1_1 tw_5_72 (by decide +kernel) (by decide) (by decide) rfl (Nat.le_of_ble_eq_true rfl) dL_law_1092 ?_
  refine l_aload (pc := 1095) C 2 dL_law_1095 rfl rfl ?_
  refine l_aload (pc := 1096) C 0 dL_law_1096 rfl rfl ?_
  refine l_iload (pc := 1097) C 3 dL_law_1097 rfl rfl ?_
  refine l_iconst (v := 1) (pc := 1098) C dL_law_1098 (by decide) ?_
  refine l_iadd (pc := 1099) C dL_law_1099 ?_
  refine l_sld (pc := 1100) C hin1 dL_law_1100 ?_
  refine l_callM (pc := 1101) (n := 1) (as := [.int (lx G (x3 + 1).toNatClampNeg)]) (r := (r, τ2)) C (kX12_check hy) tw_7_183 tw_7_184 tw_7_185 tw_1_13 tw_7_186 (by decide +kernel) (by decide) (by decide) rfl (Nat.le_of_ble_eq_true rfl) dL_law_1101 ?_
  refine l_same (tgt := 1132) (pc := 1104) C dL_law_1104 (by decide) ?_
  exact kk _ _ hI2
set_option maxHeartbeats 4000000 in
set_option maxRecDepth 100000 in
theorem law_count {G : lG} (C : lc G) {F : Nat} {I : jS → jS → Prop} (hs : S_count F I) {x3 : Int32} (hin1 : vp_in (x3 + 1) (lL G)) {σ τ : jS} (hI : I σ τ) (kk : ∀ σ τ, I σ τ → lJ G 1132 [(0, .ref (lb G)), (1, .ref (vad (l1 G) 0)), (2, .ref (vad (l2 G) 0)), (3, .int x3)] [] σ τ) : lJ G 1109 [(0, .ref (lb G)), (1, .ref (vad (l1 G) 0)), (2, .ref (vad (l2 G) 0)), (3, .int x3)] [] σ τ := by
  obtain ⟨r, hx, hy, hI2⟩ := hs σ τ (lx G (x3 + 1).toNatClampNeg) hI
  refine l_aload (pc := 1109) C 1 dL_law_1109 rfl rfl ?_
  refine l_aload (pc := 1110) C 0 dL_law_1110 rfl rfl ?_
  refine l_iload (pc := 1111) C 3 dL_law_1111 rfl rfl ?_
  refine l_iconst (v := 1) (pc := 1112) C dL_law_1112 (by decide) ?_
  refine l_iadd (pc := 1113) C dL_law_1113 ?_
  refine l_sld (pc := 1114) C hin1 dL_law_1114 ?_
  refine l_callX (pc := 1115) (n := 1) (as := [.int (lx G (x3 + 1).toNatClampNeg)]) (r := (r, σ)) C (kX11_count hx) tw_5_73 tw_5_74 tw_5_75 tw_1_1 tw_5_76 (by decide +kernel) (by decide) (by decide) rfl (Nat.le_of_ble_eq_true rfl) dL_law_1115 ?_
  refine l_aload (pc := 1118) C 2 dL_law_1118 rfl rfl ?_
  refine l_aload (pc := 1119) C 0 dL_law_1119 rfl rfl ?_
  refine l_iload (pc := 1120) C 3 dL_law_1120 rfl rfl ?_
  refine l_iconst (v := 1) (pc := 1121) C dL_law_1121 (by decide) ?_
  refine l_iadd (pc := 1122) C dL_law_1122 ?_
  refine l_sld (pc := 1123) C hin1 dL_law_1123 ?_
  refine l_callM (pc := 1124) (n := 1) (as := [.int (lx G (x3 + 1).toNatClampNeg)]) (r := (r, τ)) C (kX12_count hy) tw_7_187 tw_7_188 tw_7_189 tw_1_13 tw_7_190 (by decide +kernel) (by decide) (by decide) rfl (Nat.le_of_ble_eq_true rfl) dL_law_1124 ?_
  refine l_same (tgt := 1132) (pc := 1127) C dL_law_1127 (by decide) ?_
  exact kk _ _ hI2
theorem law_add {L i k : Nat} (hL : L ≤ 3072) (h : i + 6 ≤ L) (hk : k ≤ 5) {z : Int32} (hz : z = nI k) : vp_in (nI i + z) L := by
  rw [hz, nI_add]
  exact vp_in_nI (by omega) (by omega)
set_option maxHeartbeats 4000000 in
set_option maxRecDepth 100000 in
theorem law_loop {G : lG} (C : lc G) (hL : lL G ≤ 3072) {F : Nat} {I : jS → jS → Prop} (s0 : S_person F I) (s1 : S_feed F I) (s2 : S_law F I) (s3 : S_routine F I) (s4 : S_ledger F I) (s5 : S_days F I) (s6 : S_tried F I) (s7 : S_personIs F I) (s8 : S_loanIs F I) (s9 : S_dies F I) (s10 : S_costs F I) (s11 : S_paidOff F I) (s12 : S_dueAfter F I) (s13 : S_hiccups F I) (s14 : S_left F I) (s15 : S_longest F I) (s16 : S_stillest F I) (s17 : S_alike F I) (s18 : S_rings F I) (s19 : S_settled F I) (s20 : S_joy F I) (s21 : S_run F I) (s22 : S_table F I) (s23 : S_atOnce F I) (s24 : S_pulse F I) (s25 : S_stairs F I) (s26 : S_bells F I) (s27 : S_seed F I) (s28 : S_keep F I) (s29 : S_undo F I) (s30 : S_check F I) (s31 : S_count F I) : ∀ (n i : Nat) (x3 : Int32) (σ τ : jS), i ≤ lL G + 6 → lL G + 12 - i < n → x3 = nI i → I σ τ → lJ G 18 [(0, .ref (lb G)), (1, .ref (vad (l1 G) 0)), (2, .ref (vad (l2 G) 0)), (3, .int x3)] [] σ τ := by
  intro n
  induction n with
  | zero => intro i x3 σ τ h1 h2; exact absurd h2 (Nat.not_lt_zero _)
  | succ n ih =>
    intro i x3 σ τ h1 h2 h3 hI
    refine l_iload (pc := 18) C 3 dL_law_18 rfl rfl ?_
    refine l_aload (pc := 19) C 0 dL_law_19 rfl rfl ?_
    refine l_slen (pc := 20) C dL_law_20 ?_
    refine l_bipush (v := 6) (pc := 21) C dL_law_21 (by decide) ?_
    refine l_isub (pc := 23) C dL_law_23 ?_
    refine l_gt (tgt := 1138) (pc := 24) C dL_law_24 (by decide) (fun c => ?_) (fun c => ?_)
    · refine l_iconst (v := 1) (pc := 1138) C dL_law_1138 (by decide) ?_
      exact l_ret (pc := 1139) C dL_law_1139
    · have h6 : i + 6 ≤ lL G := by
        rcases Nat.lt_or_ge (lL G) (i + 6) with q | q
        · exfalso
          apply c
          rw [h3, Int32.lt_iff_toInt_lt, nI_toInt (by omega)]
          have e : (nI (lL G) - 6 : Int32).toInt = (lL G : Int) - 6 := pk_sub_toInt (b := 6) (by omega) (by omega)
          rw [e]
          omega
        · exact q
      have kk : ∀ σ τ, I σ τ → lJ G 1132 [(0, .ref (lb G)), (1, .ref (vad (l1 G) 0)), (2, .ref (vad (l2 G) 0)), (3, .int x3)] [] σ τ := by
        intro σ τ hI
        refine l_iinc (v := nI (i + 6)) (ls' := [(3, .int (nI (i + 6))), (0, .ref (lb G)), (1, .ref (vad (l1 G) 0)), (2, .ref (vad (l2 G) 0))]) (pc := 1132) C 3 dL_law_1132 rfl (by rw [h3]; exact nI_add i 6) (by decide) rfl ?_
        refine l_goto (tgt := 18) (pc := 1135) C dL_law_1135 (by decide) ?_
        refine l_ls [1, 2, 3, 0] rfl ?_
        exact ih (i + 6) _ σ τ (by omega) (by omega) rfl hI
      subst h3
      have hin0 : vp_in (nI i) (lL G) := vp_in_nI (by omega) (by omega)
      have hin1 : vp_in (nI i + 1) (lL G) := law_add hL h6 (k := 1) (by decide) rfl
      have hin2 : vp_in (nI i + 2) (lL G) := law_add hL h6 (k := 2) (by decide) rfl
      have hin3 : vp_in (nI i + 3) (lL G) := law_add hL h6 (k := 3) (by decide) rfl
      have hin4 : vp_in (nI i + 4) (lL G) := law_add hL h6 (k := 4) (by decide) rfl
      have hin5 : vp_in (nI i + 5) (lL G) := law_add hL h6 (k := 5) (by decide) rfl
      refine l_aload (pc := 27) C 0 dL_law_27 rfl rfl ?_
      refine l_iload (pc := 28) C 3 dL_law_28 rfl rfl ?_
      refine l_sld (pc := 29) C hin0 dL_law_29 ?_
      refine l_bipush (v := 31) (pc := 30) C dL_law_30 (by decide) ?_
      refine l_iand (pc := 32) C dL_law_32 ?_
      obtain ⟨j, hj, ej⟩ := pk_andE (lx G (nI i).toNatClampNeg) (m := 31) 5 (by decide)
      match j, hj, ej with
      | 0, _, ej =>
        refine l_sw (b := 0) (tgt := 176) (pc := 33) C dL_law_33 ej (by decide) (by decide) rfl (by decide) ?_
        exact law_person C s0 hin1 hin2 hin3 hI kk
      | 1, _, ej =>
        refine l_sw (b := 1) (tgt := 219) (pc := 33) C dL_law_33 ej (by decide) (by decide) rfl (by decide) ?_
        exact law_feed C s1 hin1 hin2 hin3 hin4 hin5 hI kk
      | 2, _, ej =>
        refine l_sw (b := 2) (tgt := 282) (pc := 33) C dL_law_33 ej (by decide) (by decide) rfl (by decide) ?_
        exact law_law C s2 hin1 hI kk
      | 3, _, ej =>
        refine l_sw (b := 3) (tgt := 305) (pc := 33) C dL_law_33 ej (by decide) (by decide) rfl (by decide) ?_
        exact law_routine C s3 hin1 hin2 hI kk
      | 4, _, ej =>
        refine l_sw (b := 4) (tgt := 338) (pc := 33) C dL_law_33 ej (by decide) (by decide) rfl (by decide) ?_
        exact law_ledger C s4 hin1 hI kk
      | 5, _, ej =>
        refine l_sw (b := 5) (tgt := 361) (pc := 33) C dL_law_33 ej (by decide) (by decide) rfl (by decide) ?_
        exact law_days C s5 hin1 hI kk
      | 6, _, ej =>
        refine l_sw (b := 6) (tgt := 384) (pc := 33) C dL_law_33 ej (by decide) (by decide) rfl (by decide) ?_
        exact law_tried C s6 hin1 hin2 hI kk
      | 7, _, ej =>
        refine l_sw (b := 7) (tgt := 417) (pc := 33) C dL_law_33 ej (by decide) (by decide) rfl (by decide) ?_
        exact law_personIs C s7 hin1 hin2 hI kk
      | 8, _, ej =>
        refine l_sw (b := 8) (tgt := 450) (pc := 33) C dL_law_33 ej (by decide) (by decide) rfl (by decide) ?_
        exact law_loanIs C s8 hin1 hin2 hI kk
      | 9, _, ej =>
        refine l_sw (b := 9) (tgt := 483) (pc := 33) C dL_law_33 ej (by decide) (by decide) rfl (by decide) ?_
        exact law_dies C s9 hin1 hin2 hI kk
      | 10, _, ej =>
        refine l_sw (b := 10) (tgt := 516) (pc := 33) C dL_law_33 ej (by decide) (by decide) rfl (by decide) ?_
        exact law_costs C s10 hin1 hin2 hI kk
      | 11, _, ej =>
        refine l_sw (b := 11) (tgt := 549) (pc := 33) C dL_law_33 ej (by decide) (by decide) rfl (by decide) ?_
        exact law_paidOff C s11 hin1 hI kk
      | 12, _, ej =>
        refine l_sw (b := 12) (tgt := 572) (pc := 33) C dL_law_33 ej (by decide) (by decide) rfl (by decide) ?_
        exact law_dueAfter C s12 hin1 hin2 hI kk
      | 13, _, ej =>
        refine l_sw (b := 13) (tgt := 605) (pc := 33) C dL_law_33 ej (by decide) (by decide) rfl (by decide) ?_
        exact law_hiccups C s13 hin1 hin2 hI kk
      | 14, _, ej =>
        refine l_sw (b := 14) (tgt := 638) (pc := 33) C dL_law_33 ej (by decide) (by decide) rfl (by decide) ?_
        exact law_left C s14 hin1 hI kk
      | 15, _, ej =>
        refine l_sw (b := 15) (tgt := 661) (pc := 33) C dL_law_33 ej (by decide) (by decide) rfl (by decide) ?_
        exact law_longest C s15 hI kk
      | 16, _, ej =>
        refine l_sw (b := 16) (tgt := 674) (pc := 33) C dL_law_33 ej (by decide) (by decide) rfl (by decide) ?_
        exact law_stillest C s16 hin1 hI kk
      | 17, _, ej =>
        refine l_sw (b := 17) (tgt := 697) (pc := 33) C dL_law_33 ej (by decide) (by decide) rfl (by decide) ?_
        exact law_alike C s17 hin1 hin2 hin3 hI kk
      | 18, _, ej =>
        refine l_sw (b := 18) (tgt := 740) (pc := 33) C dL_law_33 ej (by decide) (by decide) rfl (by decide) ?_
        exact law_rings C s18 hin1 hI kk
      | 19, _, ej =>
        refine l_sw (b := 19) (tgt := 763) (pc := 33) C dL_law_33 ej (by decide) (by decide) rfl (by decide) ?_
        exact law_settled C s19 hin1 hin2 hI kk
      | 20, _, ej =>
        refine l_sw (b := 20) (tgt := 796) (pc := 33) C dL_law_33 ej (by decide) (by decide) rfl (by decide) ?_
        exact law_joy C s20 hin1 hin2 hin3 hI kk
      | 21, _, ej =>
        refine l_sw (b := 21) (tgt := 839) (pc := 33) C dL_law_33 ej (by decide) (by decide) rfl (by decide) ?_
        exact law_run C s21 hin1 hin2 hI kk
      | 22, _, ej =>
        refine l_sw (b := 22) (tgt := 872) (pc := 33) C dL_law_33 ej (by decide) (by decide) rfl (by decide) ?_
        exact law_table C s22 hin1 hin2 hI kk
      | 23, _, ej =>
        refine l_sw (b := 23) (tgt := 905) (pc := 33) C dL_law_33 ej (by decide) (by decide) rfl (by decide) ?_
        exact law_atOnce C s23 hin1 hin2 hI kk
      | 24, _, ej =>
        refine l_sw (b := 24) (tgt := 938) (pc := 33) C dL_law_33 ej (by decide) (by decide) rfl (by decide) ?_
        exact law_pulse C s24 hin1 hin2 hI kk
      | 25, _, ej =>
        refine l_sw (b := 25) (tgt := 971) (pc := 33) C dL_law_33 ej (by decide) (by decide) rfl (by decide) ?_
        exact law_stairs C s25 hin1 hin2 hI kk
      | 26, _, ej =>
        refine l_sw (b := 26) (tgt := 1004) (pc := 33) C dL_law_33 ej (by decide) (by decide) rfl (by decide) ?_
        exact law_bells C s26 hin1 hin2 hI kk
      | 27, _, ej =>
        refine l_sw (b := 27) (tgt := 1037) (pc := 33) C dL_law_33 ej (by decide) (by decide) rfl (by decide) ?_
        exact law_seed C s27 hin1 hI kk
      | 28, _, ej =>
        refine l_sw (b := 28) (tgt := 1060) (pc := 33) C dL_law_33 ej (by decide) (by decide) rfl (by decide) ?_
        exact law_keep C s28 hI kk
      | 29, _, ej =>
        refine l_sw (b := 29) (tgt := 1073) (pc := 33) C dL_law_33 ej (by decide) (by decide) rfl (by decide) ?_
        exact law_undo C s29 hI kk
      | 30, _, ej =>
        refine l_sw (b := 30) (tgt := 1086) (pc := 33) C dL_law_33 ej (by decide) (by decide) rfl (by decide) ?_
        exact law_check C s30 hin1 hI kk
      | 31, _, ej =>
        refine l_sw (b := 31) (tgt := 1109) (pc := 33) C dL_law_33 ej (by decide) (by decide) rfl (by decide) ?_
        exact law_count C s31 hin1 hI kk
      | j + 32, hj, _ => exact absurd hj (by omega)
