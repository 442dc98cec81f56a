/-! THE CLAIM OUT OF ONE WALK OF THE LAW'S BODY. Your part is whole_start (and what it stands on); all else here is the same for every law, but numbers. -/
def R_law : String := "TwoAtMostLaw"
def lw_P (b : Addr) (xs : List Int32) (args : Array Value) (s : State) : Prop := args = #[.ref b] ∧ s.IntsAt b xs ∧ xs.length ≤ 2560 ∧ (Jvm.Cond.and given_1 narrow_1).before args s = true
def lw_Q (_ : Array Value) (s : State) (o : Outcome) (t : State) : Prop := o = .returned (some (.int 1)) ∧ Framed s o t [] 601024 7293034
def lw_Z (below : List Frame) (a : Array Value) (s : State) : State → Prop := fun t => ∃ o, t.status = .running ∧ Ended t below o ∧ lw_Q a s o t
/-- the law's own end, with 1 on the stack, nothing written that was there before, its room as the claim has it -/
theorem lw_ret {p : Program} {l : Launch} {e : Env} {s : State} {m : MethodId} {below : List Frame} {meth : Method} {c : Code} {b : Nat} (hx : p.tables.exec = Jvm.exec) (hb : c.code = code) (hr : meth.sig.returnType = ret) (hlocks : meth.locks = false) {pc : Nat} {H : Heap} {ls : Array Slot} (hdg : decode code pc = .ok (.ireturn, 1)) : W p l e room_1 s m #[Value.ref b] below meth c H [] 601024 7293034 (lw_Z below #[Value.ref b] s) (F0 m pc ls [.int 1]) := by
  intro T hT X
  obtain ⟨fs, hret, hrun, hended, hW, hframe⟩ := X.leave (v := some (.int 1)) (hlocks := hlocks) (fun h => by rw [hr] at h; cases h)
  have hmeth' : T.vm.method? m = some meth := X.method'
  refine ⟨T.setFrames fs, ?_, .returned (some (.int 1)), hrun, hended, rfl, ⟨_, rfl⟩, hW, hframe⟩
  jvm_step X.here [X.here.top, hx, hb, hdg, hmeth', hr, ret, narrow_b1]
  (try refine ⟨rfl, ?_⟩); (try refine ⟨rfl, ?_⟩)
  first | (intro acts; rw [hret _ acts rfl rfl rfl]) | rw [hret _ _ rfl rfl rfl]
  exact Steps.refl _
/-- what holds at the law's entry: the machine, the code, the tables' words (any of lw_tbl by 'hts w (by decide +kernel)'), the script of L ints xs at the cell b, what the Statement gives of the start (any of its parts by flat_of_before) -/
def lw_At (p : Program) (s : State) (m : MethodId) (meth : Method) (c : Code) (b L : Nat) (xs : Nat → Int32) : Prop :=
  p.tables.exec = Jvm.exec ∧ c.code = code ∧ meth.sig.returnType = ret ∧ c.maxLocals = 8 ∧ s.vm.findClass R_law = some m.cls ∧ (∀ w ∈ lw_tbl, w.before #[Value.ref b] s = true) ∧ va_X b L xs s s.heap ∧ b < s.heap.size ∧ meth.locks = false ∧ (Jvm.Cond.and given_1 narrow_1).before #[Value.ref b] s = true ∧ meth.name = "law"
theorem tm_1 {w : Jvm.Cond} {i : Nat} (h : tables_1_1[i]? = some w) : w ∈ lw_tbl := List.mem_append_right _ (List.mem_append_left _ (List.mem_of_getElem? h))
theorem tm_2 {w : Jvm.Cond} {i : Nat} (h : tables_1_2[i]? = some w) : w ∈ lw_tbl := List.mem_append_right _ (List.mem_append_right _ (List.mem_append_left _ (List.mem_of_getElem? h)))
theorem tm_5 {w : Jvm.Cond} {i : Nat} (h : tables_1_5[i]? = some w) : w ∈ lw_tbl := List.mem_append_right _ (List.mem_append_right _ (List.mem_append_right _ (List.mem_append_right _ (List.mem_append_right _ (List.mem_append_left _ (List.mem_of_getElem? h))))))
def ex_ps : List (Bool × Nat) := [(true, 82), (true, 89), (true, 87), (false, 21), (false, 18), (true, 109), (true, 118), (true, 120), (true, 123), (true, 125), (true, 110), (true, 111), (false, 29), (false, 30), (true, 112), (true, 117), (true, 121), (true, 137), (true, 99), (true, 138), (true, 101), (true, 139), (true, 103), (true, 113), (true, 115), (true, 105), (true, 127), (true, 128), (true, 129), (true, 130), (true, 90), (true, 130), (true, 131), (true, 132), (true, 133), (true, 92), (true, 133), (true, 134), (true, 135), (true, 110), (true, 94), (true, 126), (true, 88), (true, 89), (true, 96), (true, 97), (true, 98), (true, 100), (true, 102), (true, 104), (true, 108), (true, 107), (true, 106)]
theorem ex_eq : ex_all.map some = ex_ps.map (fun q => if q.1 then tables_1_5[q.2]? else tables_1_1[q.2]?) := by decide +kernel
theorem ex_in : ∀ w ∈ ex_all, w ∈ lw_tbl := by
  intro w hw
  have h1 : some w ∈ ex_all.map some := List.mem_map.mpr ⟨w, hw, rfl⟩
  rw [ex_eq] at h1
  obtain ⟨q, -, h2⟩ := List.mem_map.mp h1
  split at h2
  · exact tm_5 h2
  · exact tm_1 h2
/-- the pure claim: the law's run, over every script of at most 2560 ints, ends with 1 within the room -/
def Law_pure : Prop := ∀ (xs : Nat → Int32) (N : Nat), N ≤ 2560 → ∃ (n : Nat) (h' : ci_H) (nx' : ci_N), ci_run ci_Ms ci_cls ci_fty xs N n 1990 287 0 (ci_entry [.ref ci_scr] 8) [] (fun _ => .inr (0, [])) (0, 0, 0) = some (some (.int 1), h', nx') ∧ nx'.2.1 ≤ 601024 ∧ nx'.2.2 ≤ 7293034
theorem lw_cls {s : State} {args : Array Value} (hts : ∀ w ∈ ci_T, w.before args s = true) : ∀ q ∈ ci_cls, ∃ (z : ClassId × (Nat → Nat)), u_Kn s q.1 q.2.1 q.2.2 z.1 z.2 := by
  have go : ∀ (C : String) (T : u_T) (N n : Nat), (∀ w ∈ u_ws C T N, w ∈ ci_T) → Jvm.Cond.instantiable C n ∈ ci_T → ∃ (z : ClassId × (Nat → Nat)), u_Kn s C T N z.1 z.2 := fun C T N n h1 h2 => by
    obtain ⟨cC, iS, h⟩ := u_known hts h1 (hts _ h2)
    exact ⟨(cC, iS), h⟩
  exact List.forall_mem_cons.mpr ⟨go RX0 TX0 4 _ cl_ws0 wd_311, List.forall_mem_cons.mpr ⟨go RX1 TX1 5 _ cl_ws1 wd_356, List.forall_mem_cons.mpr ⟨go RX2 TX2 3 _ cl_ws2 wd_289, List.forall_mem_cons.mpr ⟨go RX3 TX3 2 _ cl_ws3 wd_381, List.forall_mem_cons.mpr ⟨go RX4 TX4 3 _ cl_ws4 wd_255, List.forall_mem_cons.mpr ⟨go RX5 TX5 2 _ cl_ws5 wd_273, List.forall_mem_cons.mpr ⟨go RX6 TX6 5 _ cl_ws6 wd_127, List.forall_mem_cons.mpr ⟨go RX7 TX7 5 _ cl_ws7 wd_332, List.forall_mem_cons.mpr ⟨go RX8 TX8 4 _ cl_ws8 wd_231, List.forall_mem_cons.mpr ⟨go RX9 TX9 4 _ cl_ws9 wd_211, List.forall_mem_cons.mpr ⟨go RX10 TX10 9 _ cl_ws10 wd_121, List.forall_mem_cons.mpr ⟨go RX11 TX11 19 _ cl_ws11 wd_113, List.forall_mem_cons.mpr ⟨go RX12 TX12 43 _ cl_ws12 wd_1220, List.forall_mem_cons.mpr ⟨go "java/util/NoSuchElementException" ci_X13 0 6 (fun w hw => nomatch hw) (tb_5 (i := 88) rfl rfl), fun _ h => absurd h List.not_mem_nil⟩⟩⟩⟩⟩⟩⟩⟩⟩⟩⟩⟩⟩⟩
set_option maxHeartbeats 4000000 in
theorem whole_start (hLP : Law_pure) {p : Program} {e : Env} {s : State} {m : MethodId} {below : List Frame} {meth : Method} {c : Code} (l : Launch) (hl : l.stackTraces = false) {b L : Nat} {xs : Nat → Int32} (hL : L ≤ 2560) (C0 : lw_At p s m meth c b L xs) : W p l e room_1 s m #[Value.ref b] below meth c s.heap [] 0 0 (lw_Z below #[Value.ref b] s) (entryFrame m ([Value.ref b] : List Value).toArray 8) := by
  obtain ⟨hx, hb, hret, hml, hown, hts, hX, hbl, hlocks, hgv, hmn⟩ := C0
  obtain ⟨n, h', nx', hrun, hc1, hc2⟩ := hLP xs L hL
  have htsT : ∀ w ∈ ci_T, w.before #[Value.ref b] s = true := fun w hw => hts w (ci_T_tbl w hw)
  have hk := lw_cls htsT
  have hk2 : ∀ c : Nat, ∃ z : ClassId × (Nat → Nat), ∀ q, ci_cls[c]? = some q → u_Kn s q.1 q.2.1 q.2.2 z.1 z.2 := by
    intro c
    cases hc : ci_cls[c]? with
    | none => exact ⟨(0, fun _ => 0), fun q hq => nomatch hq⟩
    | some q =>
      obtain ⟨z, hz⟩ := hk q (List.mem_of_getElem? hc)
      exact ⟨z, fun q' hq => by cases hq; exact hz⟩
  have hK : va_K (fun c => (Classical.choose (hk2 c)).1, fun c => (Classical.choose (hk2 c)).2) ci_cls [] s := ⟨fun c q hq => Classical.choose_spec (hk2 c) q hq, fun k q hq => nomatch hq⟩
  have hA : ∀ q : Nat, s.heap.size ≤ q → (fun q : Nat => s.heap.size ≤ q) q := fun q hq => hq
  have hbA : ¬ (fun q : Nat => s.heap.size ≤ q) b := fun h => absurd hbl (Nat.not_lt.mpr h)
  have hEs : ci_E s := by
    refine ⟨hts _ (tm_1 (i := 206) rfl), hts _ (tm_2 (i := 33) rfl), ?_⟩
    exact List.forall_mem_cons.mpr ⟨va_Nw.of rfl (hts _ (tm_1 (i := 39) rfl)), List.forall_mem_cons.mpr ⟨va_Nw.of rfl (hts _ (tm_1 (i := 123) rfl)), List.forall_mem_cons.mpr ⟨va_Nw.of rfl (hts _ (tm_1 (i := 167) rfl)), List.forall_mem_cons.mpr ⟨va_Nw.of rfl (hts _ (tm_1 (i := 190) rfl)), List.forall_mem_cons.mpr ⟨va_Nw.of rfl (hts _ (tm_1 (i := 207) rfl)), List.forall_mem_cons.mpr ⟨va_Nw.of rfl (hts _ (tm_1 (i := 220) rfl)), List.forall_mem_cons.mpr ⟨va_Nw.of rfl (hts _ (tm_2 (i := 53) rfl)), fun _ h => absurd h List.not_mem_nil⟩⟩⟩⟩⟩⟩⟩
  have hexW : ex_W s := by
    intro w hw
    have h1 := hts w (ex_in w hw)
    have h2 := ex_mvs w hw
    unfold ex_mv at h2
    split at h2
    · exact va_Nw.of rfl h1
    · exact va_Nw.of rfl h1
    · exact word_at (State.WarmedH.refl s) (good_of_word h2) h1
  have hs := flat_of_before _ hgv
  have hexZ : ex_Z (fun q : Nat => s.heap.size ≤ q) s s.heap :=
    ⟨vx_Zqof (hts _ (tm_5 (i := 114) rfl)) (hts _ (tm_1 (i := 18) rfl)) (hs _ (by decide +kernel)) (fun a ha h => absurd ha (Nat.not_lt.mpr h)), vx_Zqof (hts _ (tm_5 (i := 116) rfl)) (hts _ (tm_1 (i := 18) rfl)) (hs _ (by decide +kernel)) (fun a ha h => absurd ha (Nat.not_lt.mpr h))⟩
  have hP0 : va_P (fun c => (Classical.choose (hk2 c)).1, fun c => (Classical.choose (hk2 c)).2) ci_cls [] s.heap := fun k q hq => nomatch hq
  have hD0 : va_D (fun q : Nat => s.heap.size ≤ q) [] := ⟨(fun i j q r hi => nomatch hi), (fun k q hq => nomatch hq)⟩
  rw [lg_entry_eq]
  have hav : ci_vs (ci_ad b []) [Value.ref ci_scr] [Value.ref b] := ⟨.ref b, [], rfl, ⟨b, if_pos rfl, rfl⟩, rfl⟩
  refine ci_WAll (ct := ci_ct) (th := ci_th) (M := 287) (r := (some (.int 1), h', nx')) (ws0 := []) (kc := 0) (ks := 0) ci_hMs ci_T_good hx (by rw [ms_287]; exact hb) (by rw [ms_287]; exact hml) (by rw [ms_287]; exact hmn) (by rw [ms_287]; exact hown) htsT (A := fun q : Nat => s.heap.size ≤ q) hA hX hbl hbA hEs (d := 1990) (by show 1990 + 1 ≤ 2048; decide) (by show 40 * (1990 + 1) ≤ 84000; decide) ?_ ?_ ?_ n (fun k' _ => ci_metAll ci_hMs ci_T_good k') 0 _ [] (fun _ => .inr (0, [])) (0, 0, 0) [] [] s.heap [] 0 0 _ [] hrun ⟨⟨rfl, fun k a e he => nomatch he⟩, hK, hP0, hD0, va_S.rf⟩ (fun _ _ z => z) (ci_entry_R hav (Nat.le_of_ble_eq_true rfl)) rfl ?_ ?_
  · intro pcE lsE stE H1 locs1 cells1 slots1 ws1 tys1 i hd hrt hR hE h1 h2
    rw [ms_287] at hd hrt
    obtain ⟨rfl, rfl, -⟩ := hrt
    refine W.widen (k := 601024) (n := 7293034) h1 h2 ?_
    refine va_forget (fun q hq => hR.2.2.2.2.2.2 q hq) ?_
    exact lw_ret hx hb hret hlocks hd
  · intro pcE lsE stE SE H1 locs1 cells1 slots1 ws1 tys1 w hok h9 hr9
    cases hr9
  · exact ex_row14 hl hx (by rw [ms_287]; exact hb) (by rw [ms_287]; exact hml) (by rw [ms_287]; exact hown) htsT hA hX hbl hbA hEs hexW hexZ (by show 1990 + 1 ≤ 2048; decide) (by show 40 * (1990 + 1) ≤ 84000; decide) (by decide)
  · show 0 + nx'.2.1 + 0 ≤ 601024 + 0
    omega
  · show 0 + nx'.2.2 + 0 ≤ 7293034 + 0
    omega
set_option maxHeartbeats 4000000 in
theorem lw_walk (hLP : Law_pure) (l : Launch) (hl : l.stackTraces = false) (b : Addr) (xs : List Int32) : MetFree l x (headSpec (Jvm.Cond.code x code maxLocals ret :: tables_1) room_1) (lw_P b xs) (fun _ _ _ _ _ => True) lw_Q := by
  refine MetFree.of_bodyS (code := code) (maxLocals := maxLocals) (ret := ret) (by decide) ?_ ?_
  · intro args s m h hn
    obtain ⟨meth, c, h1, h2, h3, h4, h5, h6, -, -⟩ := Cond.code_spec hn (atoms_spec (ws := Jvm.Cond.code x code maxLocals ret :: tables_1) h _ List.mem_cons_self)
    exact ⟨meth, c, h1, h2, h3, h4, h5, h6⟩
  · intro p e s m args below meth c s₁ B hml0 hP _
    obtain ⟨rfl, hx, hbd, hgv⟩ := hP
    obtain ⟨scr, harrAt, hlist, hof, hsmall⟩ := hx
    obtain ⟨hcb, hkn, -, -⟩ := State.arrayAt?_spec harrAt
    have hown : s.vm.findClass R_law = some m.cls := findClass_of_methodNamed B.named
    have hts0 : ∀ c ∈ (Jvm.Cond.code x code maxLocals ret :: tables_1), c.before #[Value.ref b] s = true := atoms_spec (ws := Jvm.Cond.code x code maxLocals ret :: tables_1) B.pre
    have hts : ∀ w ∈ lw_tbl, w.before #[Value.ref b] s = true := k2_hts_sels lw_privs (fun w hw => hts0 w (List.mem_cons_of_mem _ hw)) lw_privs_ok
    have hml : c.maxLocals = 8 := B.maxLocals_eq (hts0 _ List.mem_cons_self)
    have X₀ : Stand p l e room_1 s m #[Value.ref b] below meth c s₁ [] 0 0 := Stand.of_body B
    have hh0 : s₁.heap = s.heap := by rw [B.state]; rfl
    have hsz : scr.slots.size = xs.length := by rw [← Array.length_toList, hlist, List.length_map]
    have hval : ∀ j : Nat, j < xs.length → scr.slots[j]? = some (.int (xs.getD j 0)) := fun j hj => by
      rw [← Array.getElem?_toList, hlist]
      simp [hj]
    have hbl : b < s.heap.size := (Array.getElem?_eq_some_iff.mp hcb).1
    have hX : va_X b xs.length (fun j => xs.getD j 0) s s.heap := ⟨scr, hcb, hof, hkn, hsz, hval⟩
    have K : W p l e room_1 s m #[Value.ref b] below meth c s₁.heap [] 0 0 (lw_Z below #[Value.ref b] s) (entryFrame m ([Value.ref b] : List Value).toArray 8) := by
      rw [hh0]
      exact whole_start hLP l hl hbd ⟨B.exec, B.bytes, B.returns, hml, hown, hts, hX, hbl, B.notSynchronized, hgv, (name_of_methodNamed B.named B.method).1⟩
    obtain ⟨t, a1, o, b1, b2, b3⟩ := K s₁ rfl X₀
    exact ⟨t, o, a1, b1, b2, b3⟩
theorem lw_pre_spec {args : Array Value} {s : State} (h : (Jvm.Cond.and given_1 narrow_1).before args s = true) (hr : rest_1_c.before args s = true) : ∃ (b : Addr) (xs : List Int32), lw_P b xs args s := by
  have hs := flat_of_before _ h
  have hq := flat_of_before _ hr
  have hc : (Cond.count 1).before args s = true := hs _ (by decide +kernel)
  have harr : (Cond.arrayOf (.arg 0) .int).before args s = true := hs _ (by decide +kernel)
  have hle : (Cond.le (.length (.arg 0)) (.int 2560)).before args s = true := hs _ (by decide +kernel)
  have hlen : (Cond.isInt (.length (.arg 0))).before args s = true := hq _ (by decide +kernel)
  have hall : (Cond.all (.arg 0) (.isInt (.elem (.arg 0) (.index 0)))).before args s = true := hq _ (by decide +kernel)
  obtain ⟨b, xs, hb, hx⟩ := State.ints_of_pre rfl harr hlen hall
  have hsm : xs.length < 2 ^ 31 := hx.choose_spec.2.2.2
  have hev : (Term.length (.arg 0)).eval args s none [] s = some (.int xs.length.toInt32) := hx.length_eval hb
  have hv := Cond.le_ints hev (show (Term.int 2560).eval args s none [] s = some (.int 2560) from rfl)
  have hd : xs.length.toInt32 ≤ 2560 := by
    simpa [Cond.before, Cond.holds, hv] using hle
  have hN : xs.length ≤ 2560 := (Int32.ofNat_le_ofNat hsm (by decide)).mp (show Int32.ofNat xs.length ≤ Int32.ofNat 2560 from hd)
  exact ⟨b, xs, Cond.one_arg hc (show args[0]? = some (.ref b) from hb), hx, hN, h⟩
theorem lw_comes (hLP : Law_pure) (l : Launch) (hl : l.stackTraces = false) : Comes l x (Jvm.Cond.code x code maxLocals ret :: tables_1) room_1 (fun tb e args s => Calls_1 tb e args s ∧ rest_1 tb e args s ∧ Pre_1 tb e args s)
    (fun _ _ args s o t => lw_Q args s o t) := by
  intro p e ha hc hk s m args below hf hfit hheap happ hpre
  obtain ⟨b, xs, hP⟩ := lw_pre_spec hpre.2.2 hpre.2.1
  obtain ⟨k, o, h1, h2, h3, hQ⟩   := lw_walk hLP l hl b xs p e ha hc hk s m args below hf ((Spec.applies_iff_loose hf).mp happ).1 hP trivial
  exact ⟨k, o, h1, h2, h3, hQ⟩
theorem lw_frame {s t : State} {o : Outcome} {args : Array Value} (h : Framed s o t [] 601024 7293034) :
    Framed s o t (fieldLocs frame_1_writes args s ++ arrayLocs frame_1_arrays args s ++ staticLocs frame_1_statics s) 601024 7293034 := h
theorem lw_limb (hLP : Law_pure) (L : Cond) (hL : ∀ (args : Array Value) (s t : State), L.after args s (.returned (some (.int 1))) t = true) :
    ArmFor flags0 classFile x code maxLocals ret World_1 tables_1 room_1 Calls_1 rest_1 Pre_1
      (fun tb e a s o t => postC L tb e a s o t ∧ Framed s o t (fieldLocs frame_1_writes a s ++ arrayLocs frame_1_arrays a s ++ staticLocs frame_1_statics s) 601024 7293034) := by
  intro l hfl _ _ p e ha hc hk s m args below hf hfit hheap happ hpre
  obtain ⟨k, o, h1, h2, h3, rfl, hF⟩   := lw_comes hLP l (by unfold Launch.stackTraces; rw [hfl]; decide) p e ha hc hk s m args below hf hfit hheap happ hpre
  exact ⟨k, _, h1, h2, h3, hL args s _, lw_frame hF⟩
theorem i_vc_of (hLP : Law_pure) : Claimed_1_1 ∧ Claimed_1_2 := ⟨lw_limb hLP limb_1_1 (fun args s t => by simp [limb_1_1, Cond.after, Cond.holds, Cond.value]), lw_limb hLP limb_1_2 (fun args s t => Cond.after_iff.mpr (by
  first | (rw [show limb_1_2 = Cond.eq .result (.int 1) from rfl, Cond.eq_ints (x := 1) (y := 1) rfl rfl]; simp; done) | (simp [limb_1_2, Cond.value, Term.eval]; done)))⟩
