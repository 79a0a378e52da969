/-! ===== the reference's constructor; by program ===== -/
def jCd (X : jX) (n : Nat) (y : MethodName) (cc : ByteArray) (maxL d mc ms : Nat) (av : List jV) (M M' : jM) : Prop :=
  Met (jXl X) y (.code y cc maxL none :: jTB) (jRm d mc ms) (jPcc X n av M) (jQc X (n + mc) none M') mc ms (jAd X)
def jRtd (C : jC) (X : jX) (n mc ms : Nat) (M' : jM) : Prop := match C with
  | (_, _, _, _, s, _, args, below, meth, _, Q) => Q = MQ below (jQc X (n + mc) none M') args s mc ms (jAd X) ∧ meth.sig.returnType = none
theorem jCd_of {X : jX} {n : Nat} {y : MethodName} {cc : ByteArray} {maxL : Nat} {d mc ms : Nat} {av ls : List jV} {M M' : jM} {own : String} (hy : plainFor y = true) (hown : y.cls = own) (hname : y.name = "<init>") (hl : (jfl av).length ≤ maxL) (hls : jfl av ++ List.replicate (maxL - (jfl av).length) jN = ls)
    (body : ∀ C : jC, jOc C X own cc maxL n d mc ms → jIn C → jRtd C X n mc ms M' → jK C X n maxL 0 0 0 ls [] M) : jCd X n y cc maxL d mc ms av M M' := by
  refine va_MetF (cc := cc) (maxL := maxL) (ret := none) hy rfl ?_
  intro p e s m args below meth c s₁ B hml hv
  obtain ⟨rfl, hO, hH, hB, hA⟩ := hv
  have hts := atoms_spec (ws := .code y cc maxL none :: jTB) B.pre
  have hk := body (p, jXl X, e, (headSpec (.code y cc maxL none :: jTB) (jRm d mc ms)).room, s, m, (av.map (jcv X)).toArray, below, meth, c, MQ below (jQc X (n + mc) none M') (av.map (jcv X)).toArray s mc ms (jAd X))
    ⟨B.exec, B.bytes, hml, by rw [← hown]; exact findClass_of_methodNamed B.named, fun w hw => hts w (List.mem_cons_of_mem _ hw), hO, hB, Nat.le_refl _, Nat.le_refl _, B.notSynchronized, rfl, hA, Nat.le_refl _, Nat.le_refl _⟩ ((name_of_methodNamed B.named B.method).1.trans hname) ⟨rfl, B.returns⟩
  rw [lg_entry_eq]
  refine hk s.heap [] _ hH ⟨Nat.le_refl _, fun _ _ _ => rfl, fun _ h => by cases h⟩ ?_
  have hlen : (lg_sl (av.map (jcv X))).length ≤ maxL := by rw [jfl_len]; exact hl
  have h := lv_entry (av.map (jcv X)) (n := maxL) hlen
  exact ⟨h.1, h.2.1, fun q hq => h.2.2 q (jfl_args X av 0 q (jal_pad X _ _ 0 q (by rw [hls]; exact hq)))⟩
section JKT
variable {C : jC} {X : jX} {own : String} {cc : ByteArray} {n0 nL d mc ms kc ks pc : Nat} {ls st : List jV} {M : jM}
theorem jOc.ro (hC : jOc C X own cc nL n0 d mc ms) (h1 : kc ≤ mc) (h2 : ks ≤ ms) : jRo C kc ks := by
  obtain ⟨p, l, e, R, s, m, args, below, meth, c, Q⟩ := C
  obtain ⟨hx, hb, hml, hown, hts, hO, hsz, hfr, hlo, hlk, hl9, hao, hmc, hms⟩ := hC
  exact ⟨by show kc ≤ R.cells; omega, by show ks ≤ R.slots; omega⟩
theorem x_vretD (hC : jOc C X own cc nL n0 d mc ms) {M' : jM} (hR : jRtd C X n0 mc ms M') (hd : decode cc pc = .ok (.return_, 1)) (h1 : kc = mc) (h2 : ks = ms) {n : Nat} (hn : n0 + mc = n) (hM : M = M') : jG C X n nL kc ks pc ls [] M := by
  subst hM h1 h2 hn
  obtain ⟨p, l, e, R, s, m, args, below, meth, c, Q⟩ := C
  obtain ⟨hx, hb, hml, hown, hts, hO, hsz, hfr, hlo, hlk, -⟩ := hC
  obtain ⟨rfl, hr⟩ := hR
  intro H locs la hH hS hL
  exact W.vret hx hb hr (fun t ht hW => ⟨rfl, by rw [ht]; exact hH, hS.F ht⟩) hS.2.2 hd hlk
end JKT

def c_X10 (M : jM) : jM := (jst (jst (jst (jst (jst (jst (jst (jst (jst (jst (jst (jst (jst (jst M 166 1 167) 166 3 168) 166 8 (-1)) 166 9 169) 166 10 170) 166 11 171) 166 12 172) 166 23 173) 166 24 174) 166 25 175) 166 26 176) 166 27 177) 166 28 178) 166 30 179)
set_option maxHeartbeats 4000000 in
set_option maxRecDepth 20000 in
theorem ok_X10_init {X : jX} {M M1 M2 : jM} (hF : jFin 179 (c_X10 M)) (h1 : f_X10_usual (c_X10 M) = some M1) (h2 : f_X10_taken M1 = some M2) : jCd X 166 yX10_init cX10_init 1 1 13 22136 [jA 166] M M2 := by
  refine jCd_of (own := RX10) (ls := [jA 166]) (by decide +kernel) rfl rfl (Nat.le_of_ble_eq_true rfl) rfl ?_
  intro C hC hI hR
  refine k_aloadA_n (pc := 0) hC dX10_init_0 rfl rfl kk_166 (by decide) ?_
  refine k_oinit (pc := 1) hC oi_X10 (by decide) (Nat.le_of_ble_eq_true rfl) (Nat.le_of_ble_eq_true rfl) dX10_init_1 ?_
  refine k_aloadA_n (pc := 4) hC dX10_init_4 rfl rfl kk_166 (by decide) ?_
  refine k_sipush (pc := 5) hC dX10_init_5 rfl ?_
  refine k_newB (pc := 8) hC aw_byte (a := 167) (N := 600) (by decide) kk_167 ll_167 (by decide) (by decide) (by decide) (Nat.le_of_ble_eq_true rfl) (Nat.le_of_ble_eq_true rfl) dX10_init_8 (kc2 := 1) (ks2 := 600) rfl rfl ?_
  refine k_pf (pc := 10) (ji := 1) hC hI fd_X10_14 fl_X10_14 rfl ft10_1 (by decide) kk_166 (by decide) dX10_init_10 rfl ?_
  refine k_aloadA_n (pc := 13) hC dX10_init_13 rfl rfl kk_166 (by decide) ?_
  refine k_iconst (pc := 14) hC dX10_init_14 ?_
  refine k_newI (pc := 15) hC aw_int (a := 168) (N := 5) (by decide) kk_168 ll_168 (by decide) (by decide) (by decide) (Nat.le_of_ble_eq_true rfl) (Nat.le_of_ble_eq_true rfl) dX10_init_15 (kc2 := 2) (ks2 := 605) rfl rfl ?_
  refine k_pf (pc := 17) (ji := 3) hC hI fd_X10_10 fl_X10_10 rfl ft10_3 (by decide) kk_166 (by decide) dX10_init_17 rfl ?_
  refine k_aloadA_n (pc := 20) hC dX10_init_20 rfl rfl kk_166 (by decide) ?_
  refine k_iconst (pc := 21) hC dX10_init_21 ?_
  refine k_pi (pc := 22) (ji := 8) hC fl_X10_73 rfl ft10_8 kk_166 (by decide) dX10_init_22 rfl ?_
  refine k_aloadA_n (pc := 25) hC dX10_init_25 rfl rfl kk_166 (by decide) ?_
  refine k_sipush (pc := 26) hC dX10_init_26 rfl ?_
  refine k_newI (pc := 29) hC aw_int (a := 169) (N := 1089) (by decide) kk_169 ll_169 (by decide) (by decide) (by decide) (Nat.le_of_ble_eq_true rfl) (Nat.le_of_ble_eq_true rfl) dX10_init_29 (kc2 := 3) (ks2 := 1694) rfl rfl ?_
  refine k_pf (pc := 31) (ji := 9) hC hI fd_X10_81 fl_X10_81 rfl ft10_9 (by decide) kk_166 (by decide) dX10_init_31 rfl ?_
  refine k_aloadA_n (pc := 34) hC dX10_init_34 rfl rfl kk_166 (by decide) ?_
  refine k_sipush (pc := 35) hC dX10_init_35 rfl ?_
  refine k_newI (pc := 38) hC aw_int (a := 170) (N := 971) (by decide) kk_170 ll_170 (by decide) (by decide) (by decide) (Nat.le_of_ble_eq_true rfl) (Nat.le_of_ble_eq_true rfl) dX10_init_38 (kc2 := 4) (ks2 := 2665) rfl rfl ?_
  refine k_pf (pc := 40) (ji := 10) hC hI fd_X10_84 fl_X10_84 rfl ft10_10 (by decide) kk_166 (by decide) dX10_init_40 rfl ?_
  refine k_aloadA_n (pc := 43) hC dX10_init_43 rfl rfl kk_166 (by decide) ?_
  refine k_sipush (pc := 44) hC dX10_init_44 rfl ?_
  refine k_newI (pc := 47) hC aw_int (a := 171) (N := 1089) (by decide) kk_171 ll_171 (by decide) (by decide) (by decide) (Nat.le_of_ble_eq_true rfl) (Nat.le_of_ble_eq_true rfl) dX10_init_47 (kc2 := 5) (ks2 := 3754) rfl rfl ?_
  refine k_pf (pc := 49) (ji := 11) hC hI fd_X10_87 fl_X10_87 rfl ft10_11 (by decide) kk_166 (by decide) dX10_init_49 rfl ?_
  refine k_aloadA_n (pc := 52) hC dX10_init_52 rfl rfl kk_166 (by decide) ?_
  refine k_sipush (pc := 53) hC dX10_init_53 rfl ?_
  refine k_newI (pc := 56) hC aw_int (a := 172) (N := 971) (by decide) kk_172 ll_172 (by decide) (by decide) (by decide) (Nat.le_of_ble_eq_true rfl) (Nat.le_of_ble_eq_true rfl) dX10_init_56 (kc2 := 6) (ks2 := 4725) rfl rfl ?_
  refine k_pf (pc := 58) (ji := 12) hC hI fd_X10_90 fl_X10_90 rfl ft10_12 (by decide) kk_166 (by decide) dX10_init_58 rfl ?_
  refine k_aloadA_n (pc := 61) hC dX10_init_61 rfl rfl kk_166 (by decide) ?_
  refine k_bipush (pc := 62) hC dX10_init_62 rfl ?_
  refine k_newI (pc := 64) hC aw_int (a := 173) (N := 9) (by decide) kk_173 ll_173 (by decide) (by decide) (by decide) (Nat.le_of_ble_eq_true rfl) (Nat.le_of_ble_eq_true rfl) dX10_init_64 (kc2 := 7) (ks2 := 4734) rfl rfl ?_
  refine k_pf (pc := 66) (ji := 23) hC hI fd_X10_93 fl_X10_93 rfl ft10_23 (by decide) kk_166 (by decide) dX10_init_66 rfl ?_
  refine k_aloadA_n (pc := 69) hC dX10_init_69 rfl rfl kk_166 (by decide) ?_
  refine k_sipush (pc := 70) hC dX10_init_70 rfl ?_
  refine k_newL (pc := 73) hC aw_long (a := 174) (N := 600) (by decide) kk_174 ll_174 (by decide) (by decide) (by decide) (Nat.le_of_ble_eq_true rfl) (Nat.le_of_ble_eq_true rfl) dX10_init_73 (kc2 := 8) (ks2 := 5334) rfl rfl ?_
  refine k_pf (pc := 75) (ji := 24) hC hI fd_X10_96 fl_X10_96 rfl ft10_24 (by decide) kk_166 (by decide) dX10_init_75 rfl ?_
  refine k_aloadA_n (pc := 78) hC dX10_init_78 rfl rfl kk_166 (by decide) ?_
  refine k_bipush (pc := 79) hC dX10_init_79 rfl ?_
  refine k_newI (pc := 81) hC aw_int (a := 175) (N := 6) (by decide) kk_175 ll_175 (by decide) (by decide) (by decide) (Nat.le_of_ble_eq_true rfl) (Nat.le_of_ble_eq_true rfl) dX10_init_81 (kc2 := 9) (ks2 := 5340) rfl rfl ?_
  refine k_pf (pc := 83) (ji := 25) hC hI fd_X10_100 fl_X10_100 rfl ft10_25 (by decide) kk_166 (by decide) dX10_init_83 rfl ?_
  refine k_aloadA_n (pc := 86) hC dX10_init_86 rfl rfl kk_166 (by decide) ?_
  refine k_bipush (pc := 87) hC dX10_init_87 rfl ?_
  refine k_newI (pc := 89) hC aw_int (a := 176) (N := 6) (by decide) kk_176 ll_176 (by decide) (by decide) (by decide) (Nat.le_of_ble_eq_true rfl) (Nat.le_of_ble_eq_true rfl) dX10_init_89 (kc2 := 10) (ks2 := 5346) rfl rfl ?_
  refine k_pf (pc := 91) (ji := 26) hC hI fd_X10_103 fl_X10_103 rfl ft10_26 (by decide) kk_166 (by decide) dX10_init_91 rfl ?_
  refine k_aloadA_n (pc := 94) hC dX10_init_94 rfl rfl kk_166 (by decide) ?_
  refine k_bipush (pc := 95) hC dX10_init_95 rfl ?_
  refine k_newI (pc := 97) hC aw_int (a := 177) (N := 54) (by decide) kk_177 ll_177 (by decide) (by decide) (by decide) (Nat.le_of_ble_eq_true rfl) (Nat.le_of_ble_eq_true rfl) dX10_init_97 (kc2 := 11) (ks2 := 5400) rfl rfl ?_
  refine k_pf (pc := 99) (ji := 27) hC hI fd_X10_106 fl_X10_106 rfl ft10_27 (by decide) kk_166 (by decide) dX10_init_99 rfl ?_
  refine k_aloadA_n (pc := 102) hC dX10_init_102 rfl rfl kk_166 (by decide) ?_
  refine k_sipush (pc := 103) hC dX10_init_103 rfl ?_
  refine k_newI (pc := 106) hC aw_int (a := 178) (N := 15536) (by decide) kk_178 ll_178 (by decide) (by decide) (by decide) (Nat.le_of_ble_eq_true rfl) (Nat.le_of_ble_eq_true rfl) dX10_init_106 (kc2 := 12) (ks2 := 20936) rfl rfl ?_
  refine k_pf (pc := 108) (ji := 28) hC hI fd_X10_109 fl_X10_109 rfl ft10_28 (by decide) kk_166 (by decide) dX10_init_108 rfl ?_
  refine k_aloadA_n (pc := 111) hC dX10_init_111 rfl rfl kk_166 (by decide) ?_
  refine k_sipush (pc := 112) hC dX10_init_112 rfl ?_
  refine k_newB (pc := 115) hC aw_byte (a := 179) (N := 1200) (by decide) kk_179 ll_179 (by decide) (by decide) (by decide) (Nat.le_of_ble_eq_true rfl) (Nat.le_of_ble_eq_true rfl) dX10_init_115 (kc2 := 13) (ks2 := 22136) rfl rfl ?_
  refine k_pf (pc := 117) (ji := 30) hC hI fd_X10_112 fl_X10_112 rfl ft10_30 (by decide) kk_166 (by decide) dX10_init_117 rfl ?_
  have hC2 := hC.ok (n := 179) (Nat.le_refl _)
  refine k_run (n := 179) rfl hF ?_
  refine x_aloadA_n (pc := 120) hC2 dX10_init_120 rfl rfl kk_166 (by decide) ?_
  refine x_cV (pc := 121) hC2 mv_X10_115 (ok_X10_usual (Nat.le_refl _) h1) rfl (Nat.le_of_ble_eq_true rfl) kk_166 rfl (by decide) (hC.ro (Nat.le_of_ble_eq_true rfl) (Nat.le_of_ble_eq_true rfl)) (Nat.le_of_ble_eq_true rfl) dX10_init_121 rfl ?_
  refine x_aloadA_n (pc := 124) hC2 dX10_init_124 rfl rfl kk_166 (by decide) ?_
  refine x_cV (pc := 125) hC2 mv_X10_118 (ok_X10_taken (Nat.le_refl _) h2) rfl (Nat.le_of_ble_eq_true rfl) kk_166 rfl (by decide) (hC.ro (Nat.le_of_ble_eq_true rfl) (Nat.le_of_ble_eq_true rfl)) (Nat.le_of_ble_eq_true rfl) dX10_init_125 rfl ?_
  exact x_vretD (pc := 128) hC hR dX10_init_128 rfl rfl rfl rfl
