def slen : List Nat := [3, 6, 5, 4, 5, 6, 5, 5, 5, 6]
def sbyt : List (List Int32) := [[97, 103, 101], [104, 105, 100, 100, 101, 110], [112, 114, 111, 111, 102], [100, 97, 121, 115], [100, 111, 117, 98, 116], [98, 97, 114, 114, 101, 100], [104, 101, 97, 114, 100], [102, 105, 108, 101, 100], [121, 111, 117, 110, 103], [110, 111, 98, 111, 100, 121]]
def sidx : List (Nat × String) := [(94, "age"), (100, "hidden"), (102, "proof"), (104, "days"), (106, "doubt"), (126, "barred"), (131, "heard"), (133, "filed"), (138, "young"), (140, "nobody")]
def pw (j : Nat) : Int64 := ([62748517, 4826809, 371293, 28561, 2197, 169, 13, 1] : List Int64).getD j 0
def EvF (ek ev : Nat → Nat) (tp : Nat) (A : Nat → Prop) (U : State) (H : Heap) : Prop := va_Nw (.methodLinkNest RX9 42 yX11_isWithin "LandRun") U ∧ va_Z "LandRun$Auction" "POWERS" "[J" (.ref tp) A U H ∧ va_T .long tp 8 (fun j => .long (pw j)) A U H ∧ vk_S 10 slen sbyt ek ev A U H ∧ va_Z "java/lang/String" "COMPACT_STRINGS" "Z" (.int 1) A U H ∧ va_Zq "jdk/internal/util/Preconditions" "SIOOBE_FORMATTER" "Ljava/util/function/BiFunction;" A U H ∧ ∀ (i : Nat) (q : Nat × String), sidx[i]? = some q → vk_R "LandRun$LawReader" q.1 q.2 (ek i) U
theorem EvF_ok (ek ev : Nat → Nat) (tp : Nat) : EvOK (EvF ek ev tp) := by
  refine ⟨fun A B s U H H1 h hB hW hq => ?_, fun A s U H hv h => ?_⟩
  · obtain ⟨h1, h2, h3, h4, h5, h6, h7⟩ := h
    exact ⟨h1.warmM hW, ((h2.moved hW.alike).kept hq).narrow hB, ((h3.moved hW.alike).kept hq).narrow hB, ((h4.moved hW.alike).kept hq).narrow hB, ((h5.moved hW.alike).kept hq).narrow hB, ((h6.moved hW.alike).kept hq).narrow hB, fun i q hi => (h7 i q hi).warm hW⟩
  · obtain ⟨h1, h2, h3, h4, h5, h6, h7⟩ := h
    have ha : s.vm.Alike U.vm := by rw [← hv]; exact Vm.Alike.refl s.vm
    exact ⟨h1.same rfl hv, h2.moved ha, h3.moved ha, h4.moved ha, h5.moved ha, h6.moved ha, fun i q hi => (h7 i q hi).same hv.symm⟩
def EvC (Ev : EvT) (ek ev : Nat → Nat) (tp : Nat) : Prop := ∀ (A : Nat → Prop) (U : State) (H : Heap), Ev A U H → EvF ek ev tp A U H
theorem EvC.f {S : Type} {Ev : EvT} {ek ev : Nat → Nat} {tp : Nat} {D : va_G} {tys : List (ClassId × FieldType)} {w : S → va_W} {A : Nat → Prop} {s : State} {σ : S} {H : Heap} {locs : List Loc} (h : EvC Ev ek ev tp) (hW : GW Ev D tys w A s σ H locs) : EvF ek ev tp A s s.heap := h A s s.heap hW.2.2.2.2.2.1
theorem EvC.nest {S : Type} {Ev : EvT} {ek ev : Nat → Nat} {tp : Nat} {D : va_G} {tys : List (ClassId × FieldType)} {w : S → va_W} {A : Nat → Prop} {s : State} {σ : S} {H : Heap} {locs : List Loc} (h : EvC Ev ek ev tp) (hW : GW Ev D tys w A s σ H locs) : va_Nw (.methodLinkNest RX9 42 yX11_isWithin "LandRun") s := (h.f hW).1
theorem EvC.pz {S : Type} {Ev : EvT} {ek ev : Nat → Nat} {tp : Nat} {D : va_G} {tys : List (ClassId × FieldType)} {w : S → va_W} {A : Nat → Prop} {s : State} {σ : S} {H : Heap} {locs : List Loc} (h : EvC Ev ek ev tp) (hW : GW Ev D tys w A s σ H locs) : va_Z "LandRun$Auction" "POWERS" "[J" (.ref tp) A s s.heap := (h.f hW).2.1
theorem EvC.pt {S : Type} {Ev : EvT} {ek ev : Nat → Nat} {tp : Nat} {D : va_G} {tys : List (ClassId × FieldType)} {w : S → va_W} {A : Nat → Prop} {s : State} {σ : S} {H : Heap} {locs : List Loc} (h : EvC Ev ek ev tp) (hW : GW Ev D tys w A s σ H locs) : va_T .long tp 8 (fun j => .long (pw j)) A s s.heap := (h.f hW).2.2.1
theorem EvC.str {S : Type} {Ev : EvT} {ek ev : Nat → Nat} {tp : Nat} {D : va_G} {tys : List (ClassId × FieldType)} {w : S → va_W} {A : Nat → Prop} {s : State} {σ : S} {H : Heap} {locs : List Loc} (h : EvC Ev ek ev tp) (hW : GW Ev D tys w A s σ H locs) (i : Nat) {q : Nat × String} (hi : sidx[i]? = some q) : vk_R "LandRun$LawReader" q.1 q.2 (ek i) s := (h.f hW).2.2.2.2.2.2 i q hi
theorem EvC.ks {S : Type} {Ev : EvT} {ek ev : Nat → Nat} {tp : Nat} {D : va_G} {tys : List (ClassId × FieldType)} {w : S → va_W} {A : Nat → Prop} {s : State} {σ : S} {H : Heap} {locs : List Loc} (h : EvC Ev ek ev tp) (hW : GW Ev D tys w A s σ H locs) : vk_S 10 slen sbyt ek ev A s s.heap := (h.f hW).2.2.2.1
theorem EvC.cz {S : Type} {Ev : EvT} {ek ev : Nat → Nat} {tp : Nat} {D : va_G} {tys : List (ClassId × FieldType)} {w : S → va_W} {A : Nat → Prop} {s : State} {σ : S} {H : Heap} {locs : List Loc} (h : EvC Ev ek ev tp) (hW : GW Ev D tys w A s σ H locs) : va_Z "java/lang/String" "COMPACT_STRINGS" "Z" (.int 1) A s s.heap := (h.f hW).2.2.2.2.1
theorem EvC.fz {S : Type} {Ev : EvT} {ek ev : Nat → Nat} {tp : Nat} {D : va_G} {tys : List (ClassId × FieldType)} {w : S → va_W} {A : Nat → Prop} {s : State} {σ : S} {H : Heap} {locs : List Loc} (h : EvC Ev ek ev tp) (hW : GW Ev D tys w A s σ H locs) : va_Zq "jdk/internal/util/Preconditions" "SIOOBE_FORMATTER" "Ljava/util/function/BiFunction;" A s s.heap := (h.f hW).2.2.2.2.2.1
theorem fitq1 (n : String) (g : Nat → Nat) (o : Option Nat) : narrow (.object n) (va_re g o) = va_re g o := by cases o <;> rfl
theorem fitq2 (n : String) (g : Nat → Nat) (o : Option Nat) : fits (.object n) (va_re g o) = true := by cases o <;> rfl
section GN
variable {S : Type} {Ev : EvT} {p : Program} {l : Launch} {e : Env} {R : Room} {s : State} {m : MethodId} {args : Array Value} {below : List Frame} {meth : Method} {c : Code} {H : Heap} {locs : List Loc} {Q : State → Prop}
variable {cc : ByteArray} {pc : Nat} {ls : Array Slot} {rest : List Value} {D : va_G} {tys : List (ClassId × FieldType)} {w : S → va_W} {A : Nat → Prop} {σ : S}
variable {nL : Nat} {Ts : List Cond} {own host : String} {y : MethodName} {ws : List Cond} {rm : Room} {n index : Nat} {bytes : ByteArray} {maxL : Nat} {ret : Option FieldType} {As : List Value}
theorem G_S0n {x : Int32} {st0 : List Value} (C : Cx p s m args c cc nL Ts own) (hW : GW Ev D tys w A s σ H locs) (hM : cGi Ev l D tys w y ws rm 0 0 As σ (fun r u => r = x ∧ u = σ)) (cw : va_CN R s args own index y host bytes maxL ret ws rm 0 0 n) (hs0 : (Cond.static y).before args s = true) (hn : As.length = n) (hls : ls.size = nL) (hst : st0 = As.reverse ++ rest) (hW8 : (rest.map fun v => v.category).sum ≤ 8) (hdg : decode cc pc = .ok (.invokestatic index, 3))
    (kk : ∀ (H1 : Heap) (locs1 : List Loc), GW Ev D tys w A s σ H1 locs1 → W p l e R s m args below meth c H1 locs1 0 0 Q (F0 m (pc + 3) ls (.int x :: rest))) : W p l e R s m args below meth c H locs 0 0 Q (F0 m pc ls st0) :=
  va_calli (va_runSN (As := As) (rest := rest) C (hM H.size) ⟨cw, hs0, trivial⟩ ⟨gPre_blind, fun U hU hv => ⟨rfl, hW.pre hU hv⟩⟩ rfl hn hls hst (lv_room (m := m) (pc := pc) (ls := ls) (rest := st0) hW8) hdg ⟨Nat.zero_le _, Nat.zero_le _⟩) hW.2.2.2.1 (fun q _ h => hW.sub q h) (fun q h => hW.sub q h) (fun r u t H1 locs1 ht hvm hw hB hz1 hk1 hS => by
    obtain ⟨h2, h3⟩ := hw
    have h1 := hW.pos ht hvm hB hS
    rw [h3] at h1
    rw [h2]
    exact kk H1 locs1 h1)
end GN
