section
variable {l : Launch} {D : va_G} {γ : Nat → ClassId} {τ : Nat → Nat} {L : Nat} {xs : Nat → Int32}
theorem zq100_0 : zSl l D γ τ L xs 100 cX11_sand zp100 0 [zo_ld 0 1, zo_callI 136 1 1, zo_ifeq 8, zo_ld 0 2, zo_push 0 1, zo_push 0 30, zo_callI 133 3 3, zo_ifne 10, zo_push 0 (-1), zo_iret, zo_ld 2 0, zo_getR 11 8, zo_ld 0 1, zo_aald 4, zo_st 2 3, zo_ld 2 3, zo_getI 8 0, zo_ifne 22, zo_ld 2 0, zo_push 0 (-11), zo_vcallI 140 2 2 17, zo_iret, zo_ld 2 3, zo_getI 8 0, zo_push 0 1, zo_iceq 30, zo_ld 2 0, zo_push 0 (-12), zo_vcallI 140 2 2 17, zo_iret, zo_ld 0 2, zo_ld 2 3, zo_getI 8 1, zo_icle 38, zo_ld 2 0, zo_push 0 (-13), zo_vcallI 140 2 2 17, zo_iret, zo_ld 2 3, zo_getR 8 2] :=
  ⟨so_iload_n rfl rfl (by decide +kernel : decode cX11_sand 0 = .ok (.iload_n 1, 1)) rfl,
   so_callI rfl rfl (zrun_S (by decide +kernel : decode cX11_sand 1 = .ok (.invokestatic 143, 3)) rfl (zCal_mk zcc_136 (by decide +kernel)) ⟨zt_514, zt_515⟩) ⟨zcc_136.1, rfl⟩,
   so_ifeq rfl rfl rfl (by decide +kernel : decode cX11_sand 4 = .ok (.ifCond .eq 13, 3)) (by decide),
   so_iload_n rfl rfl (by decide +kernel : decode cX11_sand 7 = .ok (.iload_n 2, 1)) rfl,
   so_iconst rfl rfl (by decide +kernel : decode cX11_sand 8 = .ok (.iconst 1, 1)) (by decide),
   so_bipush rfl rfl (by decide +kernel : decode cX11_sand 9 = .ok (.bipush 30, 2)) (by decide),
   so_callI rfl rfl (zrun_S (by decide +kernel : decode cX11_sand 11 = .ok (.invokestatic 85, 3)) rfl (zCal_mk zcc_133 (by decide +kernel)) ⟨zt_454, zt_455⟩) ⟨zcc_133.1, rfl⟩,
   so_ifne rfl rfl rfl (by decide +kernel : decode cX11_sand 14 = .ok (.ifCond .ne 5, 3)) (by decide),
   so_iconst rfl rfl (by decide +kernel : decode cX11_sand 17 = .ok (.iconst (-1), 1)) (by decide),
   so_iret rfl (by decide +kernel : decode cX11_sand 18 = .ok (.ireturn, 1)) rfl,
   so_aload_n rfl rfl (by decide +kernel : decode cX11_sand 19 = .ok (.aload_n 0, 1)) rfl,
   so_getR (jn := 8) rfl rfl (by decide +kernel : decode cX11_sand 20 = .ok (.getfield 73, 3)) rfl zcl_11 ⟨by decide, rfl, rfl, rfl⟩ zt_420,
   so_iload_n rfl rfl (by decide +kernel : decode cX11_sand 23 = .ok (.iload_n 1, 1)) rfl,
   so_aald4 rfl rfl (by decide +kernel : decode cX11_sand 24 = .ok (.aaload, 1)),
   so_astore_n rfl rfl (by decide +kernel : decode cX11_sand 25 = .ok (.astore_n 3, 1)) rfl,
   so_aload_n rfl rfl (by decide +kernel : decode cX11_sand 26 = .ok (.aload_n 3, 1)) rfl,
   so_getI (jn := 0) rfl rfl (by decide +kernel : decode cX11_sand 27 = .ok (.getfield 146, 3)) rfl zcl_8 ⟨by decide, rfl, rfl, rfl⟩ zt_372,
   so_ifne rfl rfl rfl (by decide +kernel : decode cX11_sand 30 = .ok (.ifCond .ne 10, 3)) (by decide),
   so_aload_n rfl rfl (by decide +kernel : decode cX11_sand 33 = .ok (.aload_n 0, 1)) rfl,
   so_bipush rfl rfl (by decide +kernel : decode cX11_sand 34 = .ok (.bipush (-11), 2)) (by decide),
   so_vcallI rfl rfl (zrun_V (by decide +kernel : decode cX11_sand 36 = .ok (.invokevirtual 149, 3)) rfl (zCal_mk zcc_140 (by decide +kernel)) (zvc_11) ⟨zt_517, zt_519, zs_1⟩) ⟨zcc_140.1, rfl⟩,
   so_iret rfl (by decide +kernel : decode cX11_sand 39 = .ok (.ireturn, 1)) rfl,
   so_aload_n rfl rfl (by decide +kernel : decode cX11_sand 40 = .ok (.aload_n 3, 1)) rfl,
   so_getI (jn := 0) rfl rfl (by decide +kernel : decode cX11_sand 41 = .ok (.getfield 146, 3)) rfl zcl_8 ⟨by decide, rfl, rfl, rfl⟩ zt_372,
   so_iconst rfl rfl (by decide +kernel : decode cX11_sand 44 = .ok (.iconst 1, 1)) (by decide),
   so_iceq rfl rfl rfl (by decide +kernel : decode cX11_sand 45 = .ok (.if_icmp .eq 10, 3)) (by decide),
   so_aload_n rfl rfl (by decide +kernel : decode cX11_sand 48 = .ok (.aload_n 0, 1)) rfl,
   so_bipush rfl rfl (by decide +kernel : decode cX11_sand 49 = .ok (.bipush (-12), 2)) (by decide),
   so_vcallI rfl rfl (zrun_V (by decide +kernel : decode cX11_sand 51 = .ok (.invokevirtual 149, 3)) rfl (zCal_mk zcc_140 (by decide +kernel)) (zvc_11) ⟨zt_517, zt_519, zs_1⟩) ⟨zcc_140.1, rfl⟩,
   so_iret rfl (by decide +kernel : decode cX11_sand 54 = .ok (.ireturn, 1)) rfl,
   so_iload_n rfl rfl (by decide +kernel : decode cX11_sand 55 = .ok (.iload_n 2, 1)) rfl,
   so_aload_n rfl rfl (by decide +kernel : decode cX11_sand 56 = .ok (.aload_n 3, 1)) rfl,
   so_getI (jn := 1) rfl rfl (by decide +kernel : decode cX11_sand 57 = .ok (.getfield 152, 3)) rfl zcl_8 ⟨by decide, rfl, rfl, rfl⟩ zt_374,
   so_icle rfl rfl rfl (by decide +kernel : decode cX11_sand 60 = .ok (.if_icmp .le 10, 3)) (by decide),
   so_aload_n rfl rfl (by decide +kernel : decode cX11_sand 63 = .ok (.aload_n 0, 1)) rfl,
   so_bipush rfl rfl (by decide +kernel : decode cX11_sand 64 = .ok (.bipush (-13), 2)) (by decide),
   so_vcallI rfl rfl (zrun_V (by decide +kernel : decode cX11_sand 66 = .ok (.invokevirtual 149, 3)) rfl (zCal_mk zcc_140 (by decide +kernel)) (zvc_11) ⟨zt_517, zt_519, zs_1⟩) ⟨zcc_140.1, rfl⟩,
   so_iret rfl (by decide +kernel : decode cX11_sand 69 = .ok (.ireturn, 1)) rfl,
   so_aload_n rfl rfl (by decide +kernel : decode cX11_sand 70 = .ok (.aload_n 3, 1)) rfl,
   so_getR (jn := 2) rfl rfl (by decide +kernel : decode cX11_sand 71 = .ok (.getfield 155, 3)) rfl zcl_8 ⟨by decide, rfl, rfl, rfl⟩ zt_376, trivial⟩
theorem zq100_1 : zSl l D γ τ L xs 100 cX11_sand zp100 40 [zo_ld 0 2, zo_callI 81 2 4, zo_ifne 45, zo_push 0 (-5), zo_iret, zo_ld 2 0, zo_getR 11 3, zo_ld 2 3, zo_getR 8 2, zo_ld 0 2, zo_vcallN 82 3 4 15, zo_ld 0 2, zo_iret] :=
  ⟨so_iload_n rfl rfl (by decide +kernel : decode cX11_sand 74 = .ok (.iload_n 2, 1)) rfl,
   so_callI rfl rfl (zrun_S (by decide +kernel : decode cX11_sand 75 = .ok (.invokestatic 159, 3)) rfl (zCal_mk zcc_81 (by decide +kernel)) ⟨zt_521, zt_522⟩) ⟨zcc_81.1, rfl⟩,
   so_ifne rfl rfl rfl (by decide +kernel : decode cX11_sand 78 = .ok (.ifCond .ne 6, 3)) (by decide),
   so_bipush rfl rfl (by decide +kernel : decode cX11_sand 81 = .ok (.bipush (-5), 2)) (by decide),
   so_iret rfl (by decide +kernel : decode cX11_sand 83 = .ok (.ireturn, 1)) rfl,
   so_aload_n rfl rfl (by decide +kernel : decode cX11_sand 84 = .ok (.aload_n 0, 1)) rfl,
   so_getR (jn := 3) rfl rfl (by decide +kernel : decode cX11_sand 85 = .ok (.getfield 33, 3)) rfl zcl_11 ⟨by decide, rfl, rfl, rfl⟩ zt_415,
   so_aload_n rfl rfl (by decide +kernel : decode cX11_sand 88 = .ok (.aload_n 3, 1)) rfl,
   so_getR (jn := 2) rfl rfl (by decide +kernel : decode cX11_sand 89 = .ok (.getfield 155, 3)) rfl zcl_8 ⟨by decide, rfl, rfl, rfl⟩ zt_376,
   so_iload_n rfl rfl (by decide +kernel : decode cX11_sand 92 = .ok (.iload_n 2, 1)) rfl,
   so_vcallN rfl rfl (zrun_V (by decide +kernel : decode cX11_sand 93 = .ok (.invokevirtual 163, 3)) rfl (zCal_mk zcc_82 (by decide +kernel)) (zvc_9) ⟨zt_525, zt_526, zt_527⟩) ⟨zcc_82.1, rfl⟩,
   so_iload_n rfl rfl (by decide +kernel : decode cX11_sand 96 = .ok (.iload_n 2, 1)) rfl,
   so_iret rfl (by decide +kernel : decode cX11_sand 97 = .ok (.ireturn, 1)) rfl, trivial⟩
theorem zq100 (hst : l.stackTraces = false) (i : Nat) : zSO l D γ τ L xs 100 cX11_sand zp100 i (zc100.getD i zo_stuck) := zSl_at (zSl_app (zq100_0) (zq100_1) rfl) i
end
section
variable {l : Launch} {D : va_G} {γ : Nat → ClassId} {τ : Nat → Nat} {L : Nat} {xs : Nat → Int32}
theorem zq101_0 : zSl l D γ τ L xs 101 cX11_hold zp101 0 [zo_ld 0 1, zo_push 0 1, zo_push 0 9, zo_callI 133 3 3, zo_ifne 7, zo_push 0 (-1), zo_iret, zo_ld 2 0, zo_getR 11 3, zo_getI 9 2, zo_st 0 2, zo_ld 2 0, zo_getR 11 3, zo_ld 0 1, zo_putI 9 2, zo_ld 0 2, zo_iret] :=
  ⟨so_iload_n rfl rfl (by decide +kernel : decode cX11_hold 0 = .ok (.iload_n 1, 1)) rfl,
   so_iconst rfl rfl (by decide +kernel : decode cX11_hold 1 = .ok (.iconst 1, 1)) (by decide),
   so_bipush rfl rfl (by decide +kernel : decode cX11_hold 2 = .ok (.bipush 9, 2)) (by decide),
   so_callI rfl rfl (zrun_S (by decide +kernel : decode cX11_hold 4 = .ok (.invokestatic 85, 3)) rfl (zCal_mk zcc_133 (by decide +kernel)) ⟨zt_454, zt_455⟩) ⟨zcc_133.1, rfl⟩,
   so_ifne rfl rfl rfl (by decide +kernel : decode cX11_hold 7 = .ok (.ifCond .ne 5, 3)) (by decide),
   so_iconst rfl rfl (by decide +kernel : decode cX11_hold 10 = .ok (.iconst (-1), 1)) (by decide),
   so_iret rfl (by decide +kernel : decode cX11_hold 11 = .ok (.ireturn, 1)) rfl,
   so_aload_n rfl rfl (by decide +kernel : decode cX11_hold 12 = .ok (.aload_n 0, 1)) rfl,
   so_getR (jn := 3) rfl rfl (by decide +kernel : decode cX11_hold 13 = .ok (.getfield 33, 3)) rfl zcl_11 ⟨by decide, rfl, rfl, rfl⟩ zt_415,
   so_getI (jn := 2) rfl rfl (by decide +kernel : decode cX11_hold 16 = .ok (.getfield 167, 3)) rfl zcl_9 ⟨by decide, rfl, rfl, rfl⟩ zt_168,
   so_istore_n rfl rfl (by decide +kernel : decode cX11_hold 19 = .ok (.istore_n 2, 1)) rfl,
   so_aload_n rfl rfl (by decide +kernel : decode cX11_hold 20 = .ok (.aload_n 0, 1)) rfl,
   so_getR (jn := 3) rfl rfl (by decide +kernel : decode cX11_hold 21 = .ok (.getfield 33, 3)) rfl zcl_11 ⟨by decide, rfl, rfl, rfl⟩ zt_415,
   so_iload_n rfl rfl (by decide +kernel : decode cX11_hold 24 = .ok (.iload_n 1, 1)) rfl,
   so_putI (jn := 2) rfl rfl (by decide +kernel : decode cX11_hold 25 = .ok (.putfield 167, 3)) rfl zcl_9 ⟨by decide, rfl, rfl, rfl, rfl⟩ zt_168,
   so_iload_n rfl rfl (by decide +kernel : decode cX11_hold 28 = .ok (.iload_n 2, 1)) rfl,
   so_iret rfl (by decide +kernel : decode cX11_hold 29 = .ok (.ireturn, 1)) rfl, trivial⟩
theorem zq101 (hst : l.stackTraces = false) (i : Nat) : zSO l D γ τ L xs 101 cX11_hold zp101 i (zc101.getD i zo_stuck) := zSl_at (zq101_0) i
end
section
variable {l : Launch} {D : va_G} {γ : Nat → ClassId} {τ : Nat → Nat} {L : Nat} {xs : Nat → Int32}
theorem zq102_0 : zSl l D γ τ L xs 102 cX11_fall zp102 0 [zo_ld 0 1, zo_push 0 0, zo_push 0 4000, zo_callI 133 3 3, zo_ifne 7, zo_push 0 (-1), zo_iret, zo_ld 2 0, zo_getR 11 3, zo_getI 9 3, zo_st 0 2, zo_ld 2 0, zo_getR 11 3, zo_ld 0 1, zo_putI 9 3, zo_ld 0 2, zo_iret] :=
  ⟨so_iload_n rfl rfl (by decide +kernel : decode cX11_fall 0 = .ok (.iload_n 1, 1)) rfl,
   so_iconst rfl rfl (by decide +kernel : decode cX11_fall 1 = .ok (.iconst 0, 1)) (by decide),
   so_sipush rfl rfl (by decide +kernel : decode cX11_fall 2 = .ok (.sipush 4000, 3)) (by decide),
   so_callI rfl rfl (zrun_S (by decide +kernel : decode cX11_fall 5 = .ok (.invokestatic 85, 3)) rfl (zCal_mk zcc_133 (by decide +kernel)) ⟨zt_454, zt_455⟩) ⟨zcc_133.1, rfl⟩,
   so_ifne rfl rfl rfl (by decide +kernel : decode cX11_fall 8 = .ok (.ifCond .ne 5, 3)) (by decide),
   so_iconst rfl rfl (by decide +kernel : decode cX11_fall 11 = .ok (.iconst (-1), 1)) (by decide),
   so_iret rfl (by decide +kernel : decode cX11_fall 12 = .ok (.ireturn, 1)) rfl,
   so_aload_n rfl rfl (by decide +kernel : decode cX11_fall 13 = .ok (.aload_n 0, 1)) rfl,
   so_getR (jn := 3) rfl rfl (by decide +kernel : decode cX11_fall 14 = .ok (.getfield 33, 3)) rfl zcl_11 ⟨by decide, rfl, rfl, rfl⟩ zt_415,
   so_getI (jn := 3) rfl rfl (by decide +kernel : decode cX11_fall 17 = .ok (.getfield 170, 3)) rfl zcl_9 ⟨by decide, rfl, rfl, rfl⟩ zt_172,
   so_istore_n rfl rfl (by decide +kernel : decode cX11_fall 20 = .ok (.istore_n 2, 1)) rfl,
   so_aload_n rfl rfl (by decide +kernel : decode cX11_fall 21 = .ok (.aload_n 0, 1)) rfl,
   so_getR (jn := 3) rfl rfl (by decide +kernel : decode cX11_fall 22 = .ok (.getfield 33, 3)) rfl zcl_11 ⟨by decide, rfl, rfl, rfl⟩ zt_415,
   so_iload_n rfl rfl (by decide +kernel : decode cX11_fall 25 = .ok (.iload_n 1, 1)) rfl,
   so_putI (jn := 3) rfl rfl (by decide +kernel : decode cX11_fall 26 = .ok (.putfield 170, 3)) rfl zcl_9 ⟨by decide, rfl, rfl, rfl, rfl⟩ zt_172,
   so_iload_n rfl rfl (by decide +kernel : decode cX11_fall 29 = .ok (.iload_n 2, 1)) rfl,
   so_iret rfl (by decide +kernel : decode cX11_fall 30 = .ok (.ireturn, 1)) rfl, trivial⟩
theorem zq102 (hst : l.stackTraces = false) (i : Nat) : zSO l D γ τ L xs 102 cX11_fall zp102 i (zc102.getD i zo_stuck) := zSl_at (zq102_0) i
end
section
variable {l : Launch} {D : va_G} {γ : Nat → ClassId} {τ : Nat → Nat} {L : Nat} {xs : Nat → Int32}
theorem zq103_0 : zSl l D γ τ L xs 103 cX11_cord zp103 0 [zo_ld 0 1, zo_callI 134 1 1, zo_ifeq 10, zo_ld 2 0, zo_getR 11 0, zo_getR 0 0, zo_ld 0 1, zo_aald 3, zo_vcallI 12 1 3 7, zo_goto 11, zo_push 0 (-1), zo_iret] :=
  ⟨so_iload_n rfl rfl (by decide +kernel : decode cX11_cord 0 = .ok (.iload_n 1, 1)) rfl,
   so_callI rfl rfl (zrun_S (by decide +kernel : decode cX11_cord 1 = .ok (.invokestatic 81, 3)) rfl (zCal_mk zcc_134 (by decide +kernel)) ⟨zt_451, zt_452⟩) ⟨zcc_134.1, rfl⟩,
   so_ifeq rfl rfl rfl (by decide +kernel : decode cX11_cord 4 = .ok (.ifCond .eq 18, 3)) (by decide),
   so_aload_n rfl rfl (by decide +kernel : decode cX11_cord 7 = .ok (.aload_n 0, 1)) rfl,
   so_getR (jn := 0) rfl rfl (by decide +kernel : decode cX11_cord 8 = .ok (.getfield 12, 3)) rfl zcl_11 ⟨by decide, rfl, rfl, rfl⟩ zt_412,
   so_getR (jn := 0) rfl rfl (by decide +kernel : decode cX11_cord 11 = .ok (.getfield 89, 3)) rfl zcl_0 ⟨by decide, rfl, rfl, rfl⟩ zt_71,
   so_iload_n rfl rfl (by decide +kernel : decode cX11_cord 14 = .ok (.iload_n 1, 1)) rfl,
   so_aald3 rfl rfl (by decide +kernel : decode cX11_cord 15 = .ok (.aaload, 1)),
   so_vcallI rfl rfl (zrun_V (by decide +kernel : decode cX11_cord 16 = .ok (.invokevirtual 173, 3)) rfl (zCal_mk zcc_12 (by decide +kernel)) (zvc_1) ⟨zt_544, zt_545, zt_546⟩) ⟨zcc_12.1, rfl⟩,
   so_goto rfl rfl (by decide +kernel : decode cX11_cord 19 = .ok (.goto 4, 3)) (by decide),
   so_iconst rfl rfl (by decide +kernel : decode cX11_cord 22 = .ok (.iconst (-1), 1)) (by decide),
   so_iret rfl (by decide +kernel : decode cX11_cord 23 = .ok (.ireturn, 1)) rfl, trivial⟩
theorem zq103 (hst : l.stackTraces = false) (i : Nat) : zSO l D γ τ L xs 103 cX11_cord zp103 i (zc103.getD i zo_stuck) := zSl_at (zq103_0) i
end
section
variable {l : Launch} {D : va_G} {γ : Nat → ClassId} {τ : Nat → Nat} {L : Nat} {xs : Nat → Int32}
theorem zq104_0 : zSl l D γ τ L xs 104 cX11_show zp104 0 [zo_ld 2 0, zo_getR 11 0, zo_vcallI 6 1 3 6, zo_ifle 6, zo_push 0 (-3), zo_iret, zo_ld 2 0, zo_getR 11 5, zo_ld 2 0, zo_getR 11 4, zo_ld 2 0, zo_getR 11 3, zo_ld 2 0, zo_getR 11 2, zo_vcallI 70 4 7 13, zo_iret] :=
  ⟨so_aload_n rfl rfl (by decide +kernel : decode cX11_show 0 = .ok (.aload_n 0, 1)) rfl,
   so_getR (jn := 0) rfl rfl (by decide +kernel : decode cX11_show 1 = .ok (.getfield 12, 3)) rfl zcl_11 ⟨by decide, rfl, rfl, rfl⟩ zt_412,
   so_vcallI rfl rfl (zrun_V (by decide +kernel : decode cX11_show 4 = .ok (.invokevirtual 177, 3)) rfl (zCal_mk zcc_6 (by decide +kernel)) (zvc_0) ⟨zt_552, zt_553, zt_554⟩) ⟨zcc_6.1, rfl⟩,
   so_ifle rfl rfl rfl (by decide +kernel : decode cX11_show 7 = .ok (.ifCond .le 6, 3)) (by decide),
   so_bipush rfl rfl (by decide +kernel : decode cX11_show 10 = .ok (.bipush (-3), 2)) (by decide),
   so_iret rfl (by decide +kernel : decode cX11_show 12 = .ok (.ireturn, 1)) rfl,
   so_aload_n rfl rfl (by decide +kernel : decode cX11_show 13 = .ok (.aload_n 0, 1)) rfl,
   so_getR (jn := 5) rfl rfl (by decide +kernel : decode cX11_show 14 = .ok (.getfield 49, 3)) rfl zcl_11 ⟨by decide, rfl, rfl, rfl⟩ zt_417,
   so_aload_n rfl rfl (by decide +kernel : decode cX11_show 17 = .ok (.aload_n 0, 1)) rfl,
   so_getR (jn := 4) rfl rfl (by decide +kernel : decode cX11_show 18 = .ok (.getfield 42, 3)) rfl zcl_11 ⟨by decide, rfl, rfl, rfl⟩ zt_416,
   so_aload_n rfl rfl (by decide +kernel : decode cX11_show 21 = .ok (.aload_n 0, 1)) rfl,
   so_getR (jn := 3) rfl rfl (by decide +kernel : decode cX11_show 22 = .ok (.getfield 33, 3)) rfl zcl_11 ⟨by decide, rfl, rfl, rfl⟩ zt_415,
   so_aload_n rfl rfl (by decide +kernel : decode cX11_show 25 = .ok (.aload_n 0, 1)) rfl,
   so_getR (jn := 2) rfl rfl (by decide +kernel : decode cX11_show 26 = .ok (.getfield 26, 3)) rfl zcl_11 ⟨by decide, rfl, rfl, rfl⟩ zt_414,
   so_vcallI rfl rfl (zrun_V (by decide +kernel : decode cX11_show 29 = .ok (.invokevirtual 180, 3)) rfl (zCal_mk zcc_70 (by decide +kernel)) (zvc_7) ⟨zt_560, zt_561, zt_562⟩) ⟨zcc_70.1, rfl⟩,
   so_iret rfl (by decide +kernel : decode cX11_show 32 = .ok (.ireturn, 1)) rfl, trivial⟩
theorem zq104 (hst : l.stackTraces = false) (i : Nat) : zSO l D γ τ L xs 104 cX11_show zp104 i (zc104.getD i zo_stuck) := zSl_at (zq104_0) i
end
section
variable {l : Launch} {D : va_G} {γ : Nat → ClassId} {τ : Nat → Nat} {L : Nat} {xs : Nat → Int32}
theorem zq105_0 : zSl l D γ τ L xs 105 cX11_pose zp105 0 [zo_ld 0 1, zo_push 0 0, zo_push 0 8, zo_callI 133 3 3, zo_ifne 10, zo_throw 1 5, zo_stuck, zo_stuck, zo_stuck, zo_stuck, zo_ld 2 0, zo_getR 11 5, zo_getI 7 0, zo_ifne 19, zo_throw 2 14, zo_stuck, zo_stuck, zo_stuck, zo_stuck, zo_ld 0 1, zo_lsw [(5, 21), (6, 25), (7, 29), (8, 33)] 37, zo_ld 2 0, zo_getR 11 5, zo_getI 7 2, zo_iret, zo_ld 2 0, zo_getR 11 5, zo_getI 7 4, zo_iret, zo_ld 2 0, zo_getR 11 5, zo_getI 7 6, zo_iret, zo_ld 2 0, zo_getR 11 5, zo_getI 7 7, zo_iret, zo_ld 2 0, zo_getR 11 5, zo_getR 7 1] :=
  ⟨so_iload_n rfl rfl (by decide +kernel : decode cX11_pose 0 = .ok (.iload_n 1, 1)) rfl,
   so_iconst rfl rfl (by decide +kernel : decode cX11_pose 1 = .ok (.iconst 0, 1)) (by decide),
   so_bipush rfl rfl (by decide +kernel : decode cX11_pose 2 = .ok (.bipush 8, 2)) (by decide),
   so_callI rfl rfl (zrun_S (by decide +kernel : decode cX11_pose 4 = .ok (.invokestatic 85, 3)) rfl (zCal_mk zcc_133 (by decide +kernel)) ⟨zt_454, zt_455⟩) ⟨zcc_133.1, rfl⟩,
   so_ifne rfl rfl rfl (by decide +kernel : decode cX11_pose 7 = .ok (.ifCond .ne 13, 3)) (by decide),
   so_throw (Or.inl rfl) (by decide) (zthr_S rfl rfl rfl (by decide +kernel) zthw_1 (by decide +kernel : decode cX11_pose 10 = .ok (.new 184, 3)) (by decide +kernel : decode cX11_pose 13 = .ok (.dup, 1)) (by decide +kernel : decode cX11_pose 14 = .ok (.ldc 186, 2)) (by decide +kernel : decode cX11_pose 16 = .ok (.invokespecial 188, 3)) (by decide +kernel : decode cX11_pose 19 = .ok (.athrow, 1))),
   so_stuck,
   so_stuck,
   so_stuck,
   so_stuck,
   so_aload_n rfl rfl (by decide +kernel : decode cX11_pose 20 = .ok (.aload_n 0, 1)) rfl,
   so_getR (jn := 5) rfl rfl (by decide +kernel : decode cX11_pose 21 = .ok (.getfield 49, 3)) rfl zcl_11 ⟨by decide, rfl, rfl, rfl⟩ zt_417,
   so_getI (jn := 0) rfl rfl (by decide +kernel : decode cX11_pose 24 = .ok (.getfield 191, 3)) rfl zcl_7 ⟨by decide, rfl, rfl, rfl⟩ zt_241,
   so_ifne rfl rfl rfl (by decide +kernel : decode cX11_pose 27 = .ok (.ifCond .ne 13, 3)) (by decide),
   so_throw (Or.inr rfl) (by decide) (zthr_S rfl rfl rfl (by decide +kernel) zthw_2 (by decide +kernel : decode cX11_pose 30 = .ok (.new 195, 3)) (by decide +kernel : decode cX11_pose 33 = .ok (.dup, 1)) (by decide +kernel : decode cX11_pose 34 = .ok (.ldc 197, 2)) (by decide +kernel : decode cX11_pose 36 = .ok (.invokespecial 199, 3)) (by decide +kernel : decode cX11_pose 39 = .ok (.athrow, 1))),
   so_stuck,
   so_stuck,
   so_stuck,
   so_stuck,
   so_iload_n rfl rfl (by decide +kernel : decode cX11_pose 40 = .ok (.iload_n 1, 1)) rfl,
   so_tsw rfl (by decide +kernel : decode cX11_pose 41 = .ok (.tableswitch 63 5 8 #[31, 39, 47, 55], 31)) ⟨rfl, by decide⟩ (List.forall_mem_cons.mpr ⟨⟨by decide, by decide, 72, 31, rfl, rfl, by decide⟩, List.forall_mem_cons.mpr ⟨⟨by decide, by decide, 80, 39, rfl, rfl, by decide⟩, List.forall_mem_cons.mpr ⟨⟨by decide, by decide, 88, 47, rfl, rfl, by decide⟩, List.forall_mem_cons.mpr ⟨⟨by decide, by decide, 96, 55, rfl, rfl, by decide⟩, fun _ h => absurd h List.not_mem_nil⟩⟩⟩⟩) (zsw_all (by decide) (by decide)),
   so_aload_n rfl rfl (by decide +kernel : decode cX11_pose 72 = .ok (.aload_n 0, 1)) rfl,
   so_getR (jn := 5) rfl rfl (by decide +kernel : decode cX11_pose 73 = .ok (.getfield 49, 3)) rfl zcl_11 ⟨by decide, rfl, rfl, rfl⟩ zt_417,
   so_getI (jn := 2) rfl rfl (by decide +kernel : decode cX11_pose 76 = .ok (.getfield 200, 3)) rfl zcl_7 ⟨by decide, rfl, rfl, rfl⟩ zt_245,
   so_iret rfl (by decide +kernel : decode cX11_pose 79 = .ok (.ireturn, 1)) rfl,
   so_aload_n rfl rfl (by decide +kernel : decode cX11_pose 80 = .ok (.aload_n 0, 1)) rfl,
   so_getR (jn := 5) rfl rfl (by decide +kernel : decode cX11_pose 81 = .ok (.getfield 49, 3)) rfl zcl_11 ⟨by decide, rfl, rfl, rfl⟩ zt_417,
   so_getI (jn := 4) rfl rfl (by decide +kernel : decode cX11_pose 84 = .ok (.getfield 203, 3)) rfl zcl_7 ⟨by decide, rfl, rfl, rfl⟩ zt_249,
   so_iret rfl (by decide +kernel : decode cX11_pose 87 = .ok (.ireturn, 1)) rfl,
   so_aload_n rfl rfl (by decide +kernel : decode cX11_pose 88 = .ok (.aload_n 0, 1)) rfl,
   so_getR (jn := 5) rfl rfl (by decide +kernel : decode cX11_pose 89 = .ok (.getfield 49, 3)) rfl zcl_11 ⟨by decide, rfl, rfl, rfl⟩ zt_417,
   so_getI (jn := 6) rfl rfl (by decide +kernel : decode cX11_pose 92 = .ok (.getfield 206, 3)) rfl zcl_7 ⟨by decide, rfl, rfl, rfl⟩ zt_253,
   so_iret rfl (by decide +kernel : decode cX11_pose 95 = .ok (.ireturn, 1)) rfl,
   so_aload_n rfl rfl (by decide +kernel : decode cX11_pose 96 = .ok (.aload_n 0, 1)) rfl,
   so_getR (jn := 5) rfl rfl (by decide +kernel : decode cX11_pose 97 = .ok (.getfield 49, 3)) rfl zcl_11 ⟨by decide, rfl, rfl, rfl⟩ zt_417,
   so_getI (jn := 7) rfl rfl (by decide +kernel : decode cX11_pose 100 = .ok (.getfield 209, 3)) rfl zcl_7 ⟨by decide, rfl, rfl, rfl⟩ zt_255,
   so_iret rfl (by decide +kernel : decode cX11_pose 103 = .ok (.ireturn, 1)) rfl,
   so_aload_n rfl rfl (by decide +kernel : decode cX11_pose 104 = .ok (.aload_n 0, 1)) rfl,
   so_getR (jn := 5) rfl rfl (by decide +kernel : decode cX11_pose 105 = .ok (.getfield 49, 3)) rfl zcl_11 ⟨by decide, rfl, rfl, rfl⟩ zt_417,
   so_getR (jn := 1) rfl rfl (by decide +kernel : decode cX11_pose 108 = .ok (.getfield 212, 3)) rfl zcl_7 ⟨by decide, rfl, rfl, rfl⟩ zt_243, trivial⟩
theorem zq105_1 : zSl l D γ τ L xs 105 cX11_pose zp105 40 [zo_ld 0 1, zo_vcallI 55 2 2 11, zo_iret] :=
  ⟨so_iload_n rfl rfl (by decide +kernel : decode cX11_pose 111 = .ok (.iload_n 1, 1)) rfl,
   so_vcallI rfl rfl (zrun_V (by decide +kernel : decode cX11_pose 112 = .ok (.invokevirtual 215, 3)) rfl (zCal_mk zcc_55 (by decide +kernel)) (zvc_5) ⟨zt_1059, zt_1060, zt_1061⟩) ⟨zcc_55.1, rfl⟩,
   so_iret rfl (by decide +kernel : decode cX11_pose 115 = .ok (.ireturn, 1)) rfl, trivial⟩
theorem zq105 (hst : l.stackTraces = false) (i : Nat) : zSO l D γ τ L xs 105 cX11_pose zp105 i (zc105.getD i zo_stuck) := zSl_at (zSl_app (zq105_0) (zq105_1) rfl) i
end
section
variable {l : Launch} {D : va_G} {γ : Nat → ClassId} {τ : Nat → Nat} {L : Nat} {xs : Nat → Int32}
theorem zq106_0 : zSl l D γ τ L xs 106 cX11_acted zp106 0 [zo_ld 0 2, zo_push 0 0, zo_push 0 3, zo_callI 133 3 3, zo_ifne 10, zo_throw 1 5, zo_stuck, zo_stuck, zo_stuck, zo_stuck, zo_ld 2 0, zo_getR 11 5, zo_getI 7 0, zo_ifeq 23, zo_ld 0 1, zo_push 0 0, zo_ld 2 0, zo_getR 11 5, zo_getI 7 4, zo_push 0 1, zo_isub, zo_callI 133 3 3, zo_ifne 28, zo_throw 2 23, zo_stuck, zo_stuck, zo_stuck, zo_stuck, zo_ld 2 0, zo_getR 11 5, zo_getR 7 3, zo_ld 0 2, zo_aald 5, zo_ld 0 1, zo_iald, zo_iret] :=
  ⟨so_iload_n rfl rfl (by decide +kernel : decode cX11_acted 0 = .ok (.iload_n 2, 1)) rfl,
   so_iconst rfl rfl (by decide +kernel : decode cX11_acted 1 = .ok (.iconst 0, 1)) (by decide),
   so_iconst rfl rfl (by decide +kernel : decode cX11_acted 2 = .ok (.iconst 3, 1)) (by decide),
   so_callI rfl rfl (zrun_S (by decide +kernel : decode cX11_acted 3 = .ok (.invokestatic 85, 3)) rfl (zCal_mk zcc_133 (by decide +kernel)) ⟨zt_454, zt_455⟩) ⟨zcc_133.1, rfl⟩,
   so_ifne rfl rfl rfl (by decide +kernel : decode cX11_acted 6 = .ok (.ifCond .ne 13, 3)) (by decide),
   so_throw (Or.inl rfl) (by decide) (zthr_S rfl rfl rfl (by decide +kernel) zthw_3 (by decide +kernel : decode cX11_acted 9 = .ok (.new 184, 3)) (by decide +kernel : decode cX11_acted 12 = .ok (.dup, 1)) (by decide +kernel : decode cX11_acted 13 = .ok (.ldc 218, 2)) (by decide +kernel : decode cX11_acted 15 = .ok (.invokespecial 188, 3)) (by decide +kernel : decode cX11_acted 18 = .ok (.athrow, 1))),
   so_stuck,
   so_stuck,
   so_stuck,
   so_stuck,
   so_aload_n rfl rfl (by decide +kernel : decode cX11_acted 19 = .ok (.aload_n 0, 1)) rfl,
   so_getR (jn := 5) rfl rfl (by decide +kernel : decode cX11_acted 20 = .ok (.getfield 49, 3)) rfl zcl_11 ⟨by decide, rfl, rfl, rfl⟩ zt_417,
   so_getI (jn := 0) rfl rfl (by decide +kernel : decode cX11_acted 23 = .ok (.getfield 191, 3)) rfl zcl_7 ⟨by decide, rfl, rfl, rfl⟩ zt_241,
   so_ifeq rfl rfl rfl (by decide +kernel : decode cX11_acted 26 = .ok (.ifCond .eq 20, 3)) (by decide),
   so_iload_n rfl rfl (by decide +kernel : decode cX11_acted 29 = .ok (.iload_n 1, 1)) rfl,
   so_iconst rfl rfl (by decide +kernel : decode cX11_acted 30 = .ok (.iconst 0, 1)) (by decide),
   so_aload_n rfl rfl (by decide +kernel : decode cX11_acted 31 = .ok (.aload_n 0, 1)) rfl,
   so_getR (jn := 5) rfl rfl (by decide +kernel : decode cX11_acted 32 = .ok (.getfield 49, 3)) rfl zcl_11 ⟨by decide, rfl, rfl, rfl⟩ zt_417,
   so_getI (jn := 4) rfl rfl (by decide +kernel : decode cX11_acted 35 = .ok (.getfield 203, 3)) rfl zcl_7 ⟨by decide, rfl, rfl, rfl⟩ zt_249,
   so_iconst rfl rfl (by decide +kernel : decode cX11_acted 38 = .ok (.iconst 1, 1)) (by decide),
   so_isub rfl rfl (by decide +kernel : decode cX11_acted 39 = .ok (.isub, 1)),
   so_callI rfl rfl (zrun_S (by decide +kernel : decode cX11_acted 40 = .ok (.invokestatic 85, 3)) rfl (zCal_mk zcc_133 (by decide +kernel)) ⟨zt_454, zt_455⟩) ⟨zcc_133.1, rfl⟩,
   so_ifne rfl rfl rfl (by decide +kernel : decode cX11_acted 43 = .ok (.ifCond .ne 13, 3)) (by decide),
   so_throw (Or.inr rfl) (by decide) (zthr_S rfl rfl rfl (by decide +kernel) zthw_4 (by decide +kernel : decode cX11_acted 46 = .ok (.new 195, 3)) (by decide +kernel : decode cX11_acted 49 = .ok (.dup, 1)) (by decide +kernel : decode cX11_acted 50 = .ok (.ldc 220, 2)) (by decide +kernel : decode cX11_acted 52 = .ok (.invokespecial 199, 3)) (by decide +kernel : decode cX11_acted 55 = .ok (.athrow, 1))),
   so_stuck,
   so_stuck,
   so_stuck,
   so_stuck,
   so_aload_n rfl rfl (by decide +kernel : decode cX11_acted 56 = .ok (.aload_n 0, 1)) rfl,
   so_getR (jn := 5) rfl rfl (by decide +kernel : decode cX11_acted 57 = .ok (.getfield 49, 3)) rfl zcl_11 ⟨by decide, rfl, rfl, rfl⟩ zt_417,
   so_getR (jn := 3) rfl rfl (by decide +kernel : decode cX11_acted 60 = .ok (.getfield 222, 3)) rfl zcl_7 ⟨by decide, rfl, rfl, rfl⟩ zt_247,
   so_iload_n rfl rfl (by decide +kernel : decode cX11_acted 63 = .ok (.iload_n 2, 1)) rfl,
   so_aald5 rfl rfl (by decide +kernel : decode cX11_acted 64 = .ok (.aaload, 1)),
   so_iload_n rfl rfl (by decide +kernel : decode cX11_acted 65 = .ok (.iload_n 1, 1)) rfl,
   so_iald rfl rfl (by decide +kernel : decode cX11_acted 66 = .ok (.iaload, 1)),
   so_iret rfl (by decide +kernel : decode cX11_acted 67 = .ok (.ireturn, 1)) rfl, trivial⟩
theorem zq106 (hst : l.stackTraces = false) (i : Nat) : zSO l D γ τ L xs 106 cX11_acted zp106 i (zc106.getD i zo_stuck) := zSl_at (zq106_0) i
end
section
variable {l : Launch} {D : va_G} {γ : Nat → ClassId} {τ : Nat → Nat} {L : Nat} {xs : Nat → Int32}
theorem zq107_0 : zSl l D γ τ L xs 107 cX11_slipped zp107 0 [zo_ld 0 2, zo_push 0 0, zo_push 0 2, zo_callI 133 3 3, zo_ifeq 20, zo_ld 2 0, zo_getR 11 5, zo_getI 7 0, zo_ifeq 20, zo_ld 0 1, zo_push 0 0, zo_ld 2 0, zo_getR 11 5, zo_getI 7 6, zo_push 0 20, zo_callI 221 2 2, zo_push 0 1, zo_isub, zo_callI 133 3 3, zo_ifne 22, zo_push 0 (-1), zo_iret, zo_ld 2 0, zo_getR 11 5, zo_getR 7 5, zo_ld 0 2, zo_aald 5, zo_ld 0 1, zo_iald, zo_iret] :=
  ⟨so_iload_n rfl rfl (by decide +kernel : decode cX11_slipped 0 = .ok (.iload_n 2, 1)) rfl,
   so_iconst rfl rfl (by decide +kernel : decode cX11_slipped 1 = .ok (.iconst 0, 1)) (by decide),
   so_iconst rfl rfl (by decide +kernel : decode cX11_slipped 2 = .ok (.iconst 2, 1)) (by decide),
   so_callI rfl rfl (zrun_S (by decide +kernel : decode cX11_slipped 3 = .ok (.invokestatic 85, 3)) rfl (zCal_mk zcc_133 (by decide +kernel)) ⟨zt_454, zt_455⟩) ⟨zcc_133.1, rfl⟩,
   so_ifeq rfl rfl rfl (by decide +kernel : decode cX11_slipped 6 = .ok (.ifCond .eq 35, 3)) (by decide),
   so_aload_n rfl rfl (by decide +kernel : decode cX11_slipped 9 = .ok (.aload_n 0, 1)) rfl,
   so_getR (jn := 5) rfl rfl (by decide +kernel : decode cX11_slipped 10 = .ok (.getfield 49, 3)) rfl zcl_11 ⟨by decide, rfl, rfl, rfl⟩ zt_417,
   so_getI (jn := 0) rfl rfl (by decide +kernel : decode cX11_slipped 13 = .ok (.getfield 191, 3)) rfl zcl_7 ⟨by decide, rfl, rfl, rfl⟩ zt_241,
   so_ifeq rfl rfl rfl (by decide +kernel : decode cX11_slipped 16 = .ok (.ifCond .eq 25, 3)) (by decide),
   so_iload_n rfl rfl (by decide +kernel : decode cX11_slipped 19 = .ok (.iload_n 1, 1)) rfl,
   so_iconst rfl rfl (by decide +kernel : decode cX11_slipped 20 = .ok (.iconst 0, 1)) (by decide),
   so_aload_n rfl rfl (by decide +kernel : decode cX11_slipped 21 = .ok (.aload_n 0, 1)) rfl,
   so_getR (jn := 5) rfl rfl (by decide +kernel : decode cX11_slipped 22 = .ok (.getfield 49, 3)) rfl zcl_11 ⟨by decide, rfl, rfl, rfl⟩ zt_417,
   so_getI (jn := 6) rfl rfl (by decide +kernel : decode cX11_slipped 25 = .ok (.getfield 206, 3)) rfl zcl_7 ⟨by decide, rfl, rfl, rfl⟩ zt_253,
   so_bipush rfl rfl (by decide +kernel : decode cX11_slipped 28 = .ok (.bipush 20, 2)) (by decide),
   so_callI rfl rfl (zrun_S (by decide +kernel : decode cX11_slipped 30 = .ok (.invokestatic 226, 3)) rfl (zCal_mk zcc_221 (by decide +kernel)) ⟨zt_655, zt_530⟩) ⟨zcc_221.1, rfl⟩,
   so_iconst rfl rfl (by decide +kernel : decode cX11_slipped 33 = .ok (.iconst 1, 1)) (by decide),
   so_isub rfl rfl (by decide +kernel : decode cX11_slipped 34 = .ok (.isub, 1)),
   so_callI rfl rfl (zrun_S (by decide +kernel : decode cX11_slipped 35 = .ok (.invokestatic 85, 3)) rfl (zCal_mk zcc_133 (by decide +kernel)) ⟨zt_454, zt_455⟩) ⟨zcc_133.1, rfl⟩,
   so_ifne rfl rfl rfl (by decide +kernel : decode cX11_slipped 38 = .ok (.ifCond .ne 5, 3)) (by decide),
   so_iconst rfl rfl (by decide +kernel : decode cX11_slipped 41 = .ok (.iconst (-1), 1)) (by decide),
   so_iret rfl (by decide +kernel : decode cX11_slipped 42 = .ok (.ireturn, 1)) rfl,
   so_aload_n rfl rfl (by decide +kernel : decode cX11_slipped 43 = .ok (.aload_n 0, 1)) rfl,
   so_getR (jn := 5) rfl rfl (by decide +kernel : decode cX11_slipped 44 = .ok (.getfield 49, 3)) rfl zcl_11 ⟨by decide, rfl, rfl, rfl⟩ zt_417,
   so_getR (jn := 5) rfl rfl (by decide +kernel : decode cX11_slipped 47 = .ok (.getfield 232, 3)) rfl zcl_7 ⟨by decide, rfl, rfl, rfl⟩ zt_251,
   so_iload_n rfl rfl (by decide +kernel : decode cX11_slipped 50 = .ok (.iload_n 2, 1)) rfl,
   so_aald5 rfl rfl (by decide +kernel : decode cX11_slipped 51 = .ok (.aaload, 1)),
   so_iload_n rfl rfl (by decide +kernel : decode cX11_slipped 52 = .ok (.iload_n 1, 1)) rfl,
   so_iald rfl rfl (by decide +kernel : decode cX11_slipped 53 = .ok (.iaload, 1)),
   so_iret rfl (by decide +kernel : decode cX11_slipped 54 = .ok (.ireturn, 1)) rfl, trivial⟩
theorem zq107 (hst : l.stackTraces = false) (i : Nat) : zSO l D γ τ L xs 107 cX11_slipped zp107 i (zc107.getD i zo_stuck) := zSl_at (zq107_0) i
end
section
variable {l : Launch} {D : va_G} {γ : Nat → ClassId} {τ : Nat → Nat} {L : Nat} {xs : Nat → Int32}
theorem zq108_0 : zSl l D γ τ L xs 108 cX11_where zp108 0 [zo_ld 0 2, zo_push 0 0, zo_push 0 4, zo_callI 133 3 3, zo_ifeq 10, zo_ld 0 1, zo_push 0 0, zo_push 0 4000, zo_callI 133 3 3, zo_ifne 15, zo_throw 1 10, zo_stuck, zo_stuck, zo_stuck, zo_stuck, zo_ld 2 0, zo_getR 11 0, zo_vcallI 6 1 3 6, zo_ifle 24, zo_throw 2 19, zo_stuck, zo_stuck, zo_stuck, zo_stuck, zo_ld 2 0, zo_getR 11 4, zo_vcallN 60 1 2 12, zo_ld 2 0, zo_getR 11 4, zo_vcallN 61 1 2 12, zo_ld 2 0, zo_getR 11 4, zo_ld 0 1, zo_ld 2 0, zo_getR 11 3, zo_getI 9 3, zo_callI 221 2 2, zo_vcallN 64 2 3 12, zo_ld 2 0, zo_getR 11 4] :=
  ⟨so_iload_n rfl rfl (by decide +kernel : decode cX11_where 0 = .ok (.iload_n 2, 1)) rfl,
   so_iconst rfl rfl (by decide +kernel : decode cX11_where 1 = .ok (.iconst 0, 1)) (by decide),
   so_iconst rfl rfl (by decide +kernel : decode cX11_where 2 = .ok (.iconst 4, 1)) (by decide),
   so_callI rfl rfl (zrun_S (by decide +kernel : decode cX11_where 3 = .ok (.invokestatic 85, 3)) rfl (zCal_mk zcc_133 (by decide +kernel)) ⟨zt_454, zt_455⟩) ⟨zcc_133.1, rfl⟩,
   so_ifeq rfl rfl rfl (by decide +kernel : decode cX11_where 6 = .ok (.ifCond .eq 14, 3)) (by decide),
   so_iload_n rfl rfl (by decide +kernel : decode cX11_where 9 = .ok (.iload_n 1, 1)) rfl,
   so_iconst rfl rfl (by decide +kernel : decode cX11_where 10 = .ok (.iconst 0, 1)) (by decide),
   so_sipush rfl rfl (by decide +kernel : decode cX11_where 11 = .ok (.sipush 4000, 3)) (by decide),
   so_callI rfl rfl (zrun_S (by decide +kernel : decode cX11_where 14 = .ok (.invokestatic 85, 3)) rfl (zCal_mk zcc_133 (by decide +kernel)) ⟨zt_454, zt_455⟩) ⟨zcc_133.1, rfl⟩,
   so_ifne rfl rfl rfl (by decide +kernel : decode cX11_where 17 = .ok (.ifCond .ne 13, 3)) (by decide),
   so_throw (Or.inl rfl) (by decide) (zthr_S rfl rfl rfl (by decide +kernel) zthw_5 (by decide +kernel : decode cX11_where 20 = .ok (.new 184, 3)) (by decide +kernel : decode cX11_where 23 = .ok (.dup, 1)) (by decide +kernel : decode cX11_where 24 = .ok (.ldc 235, 2)) (by decide +kernel : decode cX11_where 26 = .ok (.invokespecial 188, 3)) (by decide +kernel : decode cX11_where 29 = .ok (.athrow, 1))),
   so_stuck,
   so_stuck,
   so_stuck,
   so_stuck,
   so_aload_n rfl rfl (by decide +kernel : decode cX11_where 30 = .ok (.aload_n 0, 1)) rfl,
   so_getR (jn := 0) rfl rfl (by decide +kernel : decode cX11_where 31 = .ok (.getfield 12, 3)) rfl zcl_11 ⟨by decide, rfl, rfl, rfl⟩ zt_412,
   so_vcallI rfl rfl (zrun_V (by decide +kernel : decode cX11_where 34 = .ok (.invokevirtual 177, 3)) rfl (zCal_mk zcc_6 (by decide +kernel)) (zvc_0) ⟨zt_552, zt_553, zt_554⟩) ⟨zcc_6.1, rfl⟩,
   so_ifle rfl rfl rfl (by decide +kernel : decode cX11_where 37 = .ok (.ifCond .le 13, 3)) (by decide),
   so_throw (Or.inr rfl) (by decide) (zthr_S rfl rfl rfl (by decide +kernel) zthw_6 (by decide +kernel : decode cX11_where 40 = .ok (.new 195, 3)) (by decide +kernel : decode cX11_where 43 = .ok (.dup, 1)) (by decide +kernel : decode cX11_where 44 = .ok (.ldc 237, 2)) (by decide +kernel : decode cX11_where 46 = .ok (.invokespecial 199, 3)) (by decide +kernel : decode cX11_where 49 = .ok (.athrow, 1))),
   so_stuck,
   so_stuck,
   so_stuck,
   so_stuck,
   so_aload_n rfl rfl (by decide +kernel : decode cX11_where 50 = .ok (.aload_n 0, 1)) rfl,
   so_getR (jn := 4) rfl rfl (by decide +kernel : decode cX11_where 51 = .ok (.getfield 42, 3)) rfl zcl_11 ⟨by decide, rfl, rfl, rfl⟩ zt_416,
   so_vcallN rfl rfl (zrun_V (by decide +kernel : decode cX11_where 54 = .ok (.invokevirtual 239, 3)) rfl (zCal_mk zcc_60 (by decide +kernel)) (zvc_6) ⟨zt_1081, zt_565, zt_566⟩) ⟨zcc_60.1, rfl⟩,
   so_aload_n rfl rfl (by decide +kernel : decode cX11_where 57 = .ok (.aload_n 0, 1)) rfl,
   so_getR (jn := 4) rfl rfl (by decide +kernel : decode cX11_where 58 = .ok (.getfield 42, 3)) rfl zcl_11 ⟨by decide, rfl, rfl, rfl⟩ zt_416,
   so_vcallN rfl rfl (zrun_V (by decide +kernel : decode cX11_where 61 = .ok (.invokevirtual 242, 3)) rfl (zCal_mk zcc_61 (by decide +kernel)) (zvc_6) ⟨zt_1082, zt_572, zt_573⟩) ⟨zcc_61.1, rfl⟩,
   so_aload_n rfl rfl (by decide +kernel : decode cX11_where 64 = .ok (.aload_n 0, 1)) rfl,
   so_getR (jn := 4) rfl rfl (by decide +kernel : decode cX11_where 65 = .ok (.getfield 42, 3)) rfl zcl_11 ⟨by decide, rfl, rfl, rfl⟩ zt_416,
   so_iload_n rfl rfl (by decide +kernel : decode cX11_where 68 = .ok (.iload_n 1, 1)) rfl,
   so_aload_n rfl rfl (by decide +kernel : decode cX11_where 69 = .ok (.aload_n 0, 1)) rfl,
   so_getR (jn := 3) rfl rfl (by decide +kernel : decode cX11_where 70 = .ok (.getfield 33, 3)) rfl zcl_11 ⟨by decide, rfl, rfl, rfl⟩ zt_415,
   so_getI (jn := 3) rfl rfl (by decide +kernel : decode cX11_where 73 = .ok (.getfield 170, 3)) rfl zcl_9 ⟨by decide, rfl, rfl, rfl⟩ zt_172,
   so_callI rfl rfl (zrun_S (by decide +kernel : decode cX11_where 76 = .ok (.invokestatic 226, 3)) rfl (zCal_mk zcc_221 (by decide +kernel)) ⟨zt_655, zt_530⟩) ⟨zcc_221.1, rfl⟩,
   so_vcallN rfl rfl (zrun_V (by decide +kernel : decode cX11_where 79 = .ok (.invokevirtual 245, 3)) rfl (zCal_mk zcc_64 (by decide +kernel)) (zvc_6) ⟨zt_1083, zt_807, zt_808⟩) ⟨zcc_64.1, rfl⟩,
   so_aload_n rfl rfl (by decide +kernel : decode cX11_where 82 = .ok (.aload_n 0, 1)) rfl,
   so_getR (jn := 4) rfl rfl (by decide +kernel : decode cX11_where 83 = .ok (.getfield 42, 3)) rfl zcl_11 ⟨by decide, rfl, rfl, rfl⟩ zt_416, trivial⟩
theorem zq108_1 : zSl l D γ τ L xs 108 cX11_where zp108 40 [zo_getR 6 2, zo_ld 0 2, zo_vcallI 55 2 2 11, zo_iret] :=
  ⟨so_getR (jn := 2) rfl rfl (by decide +kernel : decode cX11_where 86 = .ok (.getfield 249, 3)) rfl zcl_6 ⟨by decide, rfl, rfl, rfl⟩ zt_199,
   so_iload_n rfl rfl (by decide +kernel : decode cX11_where 89 = .ok (.iload_n 2, 1)) rfl,
   so_vcallI rfl rfl (zrun_V (by decide +kernel : decode cX11_where 90 = .ok (.invokevirtual 215, 3)) rfl (zCal_mk zcc_55 (by decide +kernel)) (zvc_5) ⟨zt_1059, zt_1060, zt_1061⟩) ⟨zcc_55.1, rfl⟩,
   so_iret rfl (by decide +kernel : decode cX11_where 93 = .ok (.ireturn, 1)) rfl, trivial⟩
theorem zq108 (hst : l.stackTraces = false) (i : Nat) : zSO l D γ τ L xs 108 cX11_where zp108 i (zc108.getD i zo_stuck) := zSl_at (zSl_app (zq108_0) (zq108_1) rfl) i
end
section
variable {l : Launch} {D : va_G} {γ : Nat → ClassId} {τ : Nat → Nat} {L : Nat} {xs : Nat → Int32}
theorem zq109_0 : zSl l D γ τ L xs 109 cX11_wish zp109 0 [zo_ld 0 1, zo_ld 0 2, zo_ld 0 3, zo_callI 137 3 3, zo_ifne 7, zo_push 0 (-1), zo_iret, zo_ld 2 0, zo_getR 11 6, zo_getI 10 1, zo_push 0 20, zo_iclt 14, zo_push 0 (-2), zo_iret, zo_ld 2 0, zo_getR 11 6, zo_ld 0 1, zo_ld 0 2, zo_ld 0 3, zo_vcallN 85 4 4 16, zo_ld 2 0, zo_getR 11 6, zo_getI 10 1, zo_iret] :=
  ⟨so_iload_n rfl rfl (by decide +kernel : decode cX11_wish 0 = .ok (.iload_n 1, 1)) rfl,
   so_iload_n rfl rfl (by decide +kernel : decode cX11_wish 1 = .ok (.iload_n 2, 1)) rfl,
   so_iload_n rfl rfl (by decide +kernel : decode cX11_wish 2 = .ok (.iload_n 3, 1)) rfl,
   so_callI rfl rfl (zrun_S (by decide +kernel : decode cX11_wish 3 = .ok (.invokestatic 250, 3)) rfl (zCal_mk zcc_137 (by decide +kernel)) ⟨zt_660, zt_661⟩) ⟨zcc_137.1, rfl⟩,
   so_ifne rfl rfl rfl (by decide +kernel : decode cX11_wish 6 = .ok (.ifCond .ne 5, 3)) (by decide),
   so_iconst rfl rfl (by decide +kernel : decode cX11_wish 9 = .ok (.iconst (-1), 1)) (by decide),
   so_iret rfl (by decide +kernel : decode cX11_wish 10 = .ok (.ireturn, 1)) rfl,
   so_aload_n rfl rfl (by decide +kernel : decode cX11_wish 11 = .ok (.aload_n 0, 1)) rfl,
   so_getR (jn := 6) rfl rfl (by decide +kernel : decode cX11_wish 12 = .ok (.getfield 58, 3)) rfl zcl_11 ⟨by decide, rfl, rfl, rfl⟩ zt_418,
   so_getI (jn := 1) rfl rfl (by decide +kernel : decode cX11_wish 15 = .ok (.getfield 253, 3)) rfl zcl_10 ⟨by decide, rfl, rfl, rfl⟩ zt_284,
   so_bipush rfl rfl (by decide +kernel : decode cX11_wish 18 = .ok (.bipush 20, 2)) (by decide),
   so_iclt rfl rfl rfl (by decide +kernel : decode cX11_wish 20 = .ok (.if_icmp .lt 6, 3)) (by decide),
   so_bipush rfl rfl (by decide +kernel : decode cX11_wish 23 = .ok (.bipush (-2), 2)) (by decide),
   so_iret rfl (by decide +kernel : decode cX11_wish 25 = .ok (.ireturn, 1)) rfl,
   so_aload_n rfl rfl (by decide +kernel : decode cX11_wish 26 = .ok (.aload_n 0, 1)) rfl,
   so_getR (jn := 6) rfl rfl (by decide +kernel : decode cX11_wish 27 = .ok (.getfield 58, 3)) rfl zcl_11 ⟨by decide, rfl, rfl, rfl⟩ zt_418,
   so_iload_n rfl rfl (by decide +kernel : decode cX11_wish 30 = .ok (.iload_n 1, 1)) rfl,
   so_iload_n rfl rfl (by decide +kernel : decode cX11_wish 31 = .ok (.iload_n 2, 1)) rfl,
   so_iload_n rfl rfl (by decide +kernel : decode cX11_wish 32 = .ok (.iload_n 3, 1)) rfl,
   so_vcallN rfl rfl (zrun_V (by decide +kernel : decode cX11_wish 33 = .ok (.invokevirtual 254, 3)) rfl (zCal_mk zcc_85 (by decide +kernel)) (zvc_10) ⟨zt_663, zt_664, zt_665⟩) ⟨zcc_85.1, rfl⟩,
   so_aload_n rfl rfl (by decide +kernel : decode cX11_wish 36 = .ok (.aload_n 0, 1)) rfl,
   so_getR (jn := 6) rfl rfl (by decide +kernel : decode cX11_wish 37 = .ok (.getfield 58, 3)) rfl zcl_11 ⟨by decide, rfl, rfl, rfl⟩ zt_418,
   so_getI (jn := 1) rfl rfl (by decide +kernel : decode cX11_wish 40 = .ok (.getfield 253, 3)) rfl zcl_10 ⟨by decide, rfl, rfl, rfl⟩ zt_284,
   so_iret rfl (by decide +kernel : decode cX11_wish 43 = .ok (.ireturn, 1)) rfl, trivial⟩
theorem zq109 (hst : l.stackTraces = false) (i : Nat) : zSO l D γ τ L xs 109 cX11_wish zp109 i (zc109.getD i zo_stuck) := zSl_at (zq109_0) i
end
section
variable {l : Launch} {D : va_G} {γ : Nat → ClassId} {τ : Nat → Nat} {L : Nat} {xs : Nat → Int32}
theorem zq110_0 : zSl l D γ τ L xs 110 cX11_wishless zp110 0 [zo_ld 2 0, zo_getR 11 6, zo_getI 10 1, zo_st 0 1, zo_ld 2 0, zo_getR 11 6, zo_push 0 0, zo_putI 10 1, zo_ld 0 1, zo_iret] :=
  ⟨so_aload_n rfl rfl (by decide +kernel : decode cX11_wishless 0 = .ok (.aload_n 0, 1)) rfl,
   so_getR (jn := 6) rfl rfl (by decide +kernel : decode cX11_wishless 1 = .ok (.getfield 58, 3)) rfl zcl_11 ⟨by decide, rfl, rfl, rfl⟩ zt_418,
   so_getI (jn := 1) rfl rfl (by decide +kernel : decode cX11_wishless 4 = .ok (.getfield 253, 3)) rfl zcl_10 ⟨by decide, rfl, rfl, rfl⟩ zt_284,
   so_istore_n rfl rfl (by decide +kernel : decode cX11_wishless 7 = .ok (.istore_n 1, 1)) rfl,
   so_aload_n rfl rfl (by decide +kernel : decode cX11_wishless 8 = .ok (.aload_n 0, 1)) rfl,
   so_getR (jn := 6) rfl rfl (by decide +kernel : decode cX11_wishless 9 = .ok (.getfield 58, 3)) rfl zcl_11 ⟨by decide, rfl, rfl, rfl⟩ zt_418,
   so_iconst rfl rfl (by decide +kernel : decode cX11_wishless 12 = .ok (.iconst 0, 1)) (by decide),
   so_putI (jn := 1) rfl rfl (by decide +kernel : decode cX11_wishless 13 = .ok (.putfield 253, 3)) rfl zcl_10 ⟨by decide, rfl, rfl, rfl, rfl⟩ zt_284,
   so_iload_n rfl rfl (by decide +kernel : decode cX11_wishless 16 = .ok (.iload_n 1, 1)) rfl,
   so_iret rfl (by decide +kernel : decode cX11_wishless 17 = .ok (.ireturn, 1)) rfl, trivial⟩
theorem zq110 (hst : l.stackTraces = false) (i : Nat) : zSO l D γ τ L xs 110 cX11_wishless zp110 i (zc110.getD i zo_stuck) := zSl_at (zq110_0) i
end
section
variable {l : Launch} {D : va_G} {γ : Nat → ClassId} {τ : Nat → Nat} {L : Nat} {xs : Nat → Int32}
theorem zq111_0 : zSl l D γ τ L xs 111 cX11_way zp111 0 [zo_ld 0 1, zo_ld 0 2, zo_callI 135 2 2, zo_ifeq 13, zo_ld 0 3, zo_push 0 0, zo_push 0 3, zo_callI 133 3 3, zo_ifeq 13, zo_ld 0 4, zo_ld 0 5, zo_callI 135 2 2, zo_ifne 15, zo_push 0 (-1), zo_iret, zo_ld 2 0, zo_getR 11 2, zo_ld 0 1, zo_ld 0 2, zo_vcallI 36 3 3 9, zo_ifne 23, zo_push 0 (-4), zo_iret, zo_ld 2 0, zo_getR 11 2, zo_ld 0 1, zo_ld 0 2, zo_ld 0 3, zo_ld 0 4, zo_ld 0 5, zo_push 0 4, zo_ld 2 0, zo_getR 11 0, zo_getI 0 3, zo_imul, zo_vcallI 37 7 10 9, zo_st 0 6, zo_ld 0 6, zo_ifge 41, zo_push 0 (-5)] :=
  ⟨so_iload_n rfl rfl (by decide +kernel : decode cX11_way 0 = .ok (.iload_n 1, 1)) rfl,
   so_iload_n rfl rfl (by decide +kernel : decode cX11_way 1 = .ok (.iload_n 2, 1)) rfl,
   so_callI rfl rfl (zrun_S (by decide +kernel : decode cX11_way 2 = .ok (.invokestatic 130, 3)) rfl (zCal_mk zcc_135 (by decide +kernel)) ⟨zt_494, zt_495⟩) ⟨zcc_135.1, rfl⟩,
   so_ifeq rfl rfl rfl (by decide +kernel : decode cX11_way 5 = .ok (.ifCond .eq 22, 3)) (by decide),
   so_iload_n rfl rfl (by decide +kernel : decode cX11_way 8 = .ok (.iload_n 3, 1)) rfl,
   so_iconst rfl rfl (by decide +kernel : decode cX11_way 9 = .ok (.iconst 0, 1)) (by decide),
   so_iconst rfl rfl (by decide +kernel : decode cX11_way 10 = .ok (.iconst 3, 1)) (by decide),
   so_callI rfl rfl (zrun_S (by decide +kernel : decode cX11_way 11 = .ok (.invokestatic 85, 3)) rfl (zCal_mk zcc_133 (by decide +kernel)) ⟨zt_454, zt_455⟩) ⟨zcc_133.1, rfl⟩,
   so_ifeq rfl rfl rfl (by decide +kernel : decode cX11_way 14 = .ok (.ifCond .eq 13, 3)) (by decide),
   so_iload rfl rfl (by decide +kernel : decode cX11_way 17 = .ok (.iload 4, 2)),
   so_iload rfl rfl (by decide +kernel : decode cX11_way 19 = .ok (.iload 5, 2)),
   so_callI rfl rfl (zrun_S (by decide +kernel : decode cX11_way 21 = .ok (.invokestatic 130, 3)) rfl (zCal_mk zcc_135 (by decide +kernel)) ⟨zt_494, zt_495⟩) ⟨zcc_135.1, rfl⟩,
   so_ifne rfl rfl rfl (by decide +kernel : decode cX11_way 24 = .ok (.ifCond .ne 5, 3)) (by decide),
   so_iconst rfl rfl (by decide +kernel : decode cX11_way 27 = .ok (.iconst (-1), 1)) (by decide),
   so_iret rfl (by decide +kernel : decode cX11_way 28 = .ok (.ireturn, 1)) rfl,
   so_aload_n rfl rfl (by decide +kernel : decode cX11_way 29 = .ok (.aload_n 0, 1)) rfl,
   so_getR (jn := 2) rfl rfl (by decide +kernel : decode cX11_way 30 = .ok (.getfield 26, 3)) rfl zcl_11 ⟨by decide, rfl, rfl, rfl⟩ zt_414,
   so_iload_n rfl rfl (by decide +kernel : decode cX11_way 33 = .ok (.iload_n 1, 1)) rfl,
   so_iload_n rfl rfl (by decide +kernel : decode cX11_way 34 = .ok (.iload_n 2, 1)) rfl,
   so_vcallI rfl rfl (zrun_V (by decide +kernel : decode cX11_way 35 = .ok (.invokevirtual 137, 3)) rfl (zCal_mk zcc_36 (by decide +kernel)) (zvc_3) ⟨zt_497, zt_498, zt_499⟩) ⟨zcc_36.1, rfl⟩,
   so_ifne rfl rfl rfl (by decide +kernel : decode cX11_way 38 = .ok (.ifCond .ne 6, 3)) (by decide),
   so_bipush rfl rfl (by decide +kernel : decode cX11_way 41 = .ok (.bipush (-4), 2)) (by decide),
   so_iret rfl (by decide +kernel : decode cX11_way 43 = .ok (.ireturn, 1)) rfl,
   so_aload_n rfl rfl (by decide +kernel : decode cX11_way 44 = .ok (.aload_n 0, 1)) rfl,
   so_getR (jn := 2) rfl rfl (by decide +kernel : decode cX11_way 45 = .ok (.getfield 26, 3)) rfl zcl_11 ⟨by decide, rfl, rfl, rfl⟩ zt_414,
   so_iload_n rfl rfl (by decide +kernel : decode cX11_way 48 = .ok (.iload_n 1, 1)) rfl,
   so_iload_n rfl rfl (by decide +kernel : decode cX11_way 49 = .ok (.iload_n 2, 1)) rfl,
   so_iload_n rfl rfl (by decide +kernel : decode cX11_way 50 = .ok (.iload_n 3, 1)) rfl,
   so_iload rfl rfl (by decide +kernel : decode cX11_way 51 = .ok (.iload 4, 2)),
   so_iload rfl rfl (by decide +kernel : decode cX11_way 53 = .ok (.iload 5, 2)),
   so_iconst rfl rfl (by decide +kernel : decode cX11_way 55 = .ok (.iconst 4, 1)) (by decide),
   so_aload_n rfl rfl (by decide +kernel : decode cX11_way 56 = .ok (.aload_n 0, 1)) rfl,
   so_getR (jn := 0) rfl rfl (by decide +kernel : decode cX11_way 57 = .ok (.getfield 12, 3)) rfl zcl_11 ⟨by decide, rfl, rfl, rfl⟩ zt_412,
   so_getI (jn := 3) rfl rfl (by decide +kernel : decode cX11_way 60 = .ok (.getfield 116, 3)) rfl zcl_0 ⟨by decide, rfl, rfl, rfl⟩ zt_78,
   so_imul rfl rfl (by decide +kernel : decode cX11_way 63 = .ok (.imul, 1)),
   so_vcallI rfl rfl (zrun_V (by decide +kernel : decode cX11_way 64 = .ok (.invokevirtual 255, 3)) rfl (zCal_mk zcc_37 (by decide +kernel)) (zvc_3) ⟨zt_675, zt_676, zt_677⟩) ⟨zcc_37.1, rfl⟩,
   so_istore rfl rfl (by decide +kernel : decode cX11_way 67 = .ok (.istore 6, 2)),
   so_iload rfl rfl (by decide +kernel : decode cX11_way 69 = .ok (.iload 6, 2)),
   so_ifge rfl rfl rfl (by decide +kernel : decode cX11_way 71 = .ok (.ifCond .ge 8, 3)) (by decide),
   so_bipush rfl rfl (by decide +kernel : decode cX11_way 74 = .ok (.bipush (-5), 2)) (by decide), trivial⟩
theorem zq111_1 : zSl l D γ τ L xs 111 cX11_way zp111 40 [zo_goto 42, zo_ld 0 6, zo_iret] :=
  ⟨so_goto rfl rfl (by decide +kernel : decode cX11_way 76 = .ok (.goto 5, 3)) (by decide),
   so_iload rfl rfl (by decide +kernel : decode cX11_way 79 = .ok (.iload 6, 2)),
   so_iret rfl (by decide +kernel : decode cX11_way 81 = .ok (.ireturn, 1)) rfl, trivial⟩
theorem zq111 (hst : l.stackTraces = false) (i : Nat) : zSO l D γ τ L xs 111 cX11_way zp111 i (zc111.getD i zo_stuck) := zSl_at (zSl_app (zq111_0) (zq111_1) rfl) i
end
section
variable {l : Launch} {D : va_G} {γ : Nat → ClassId} {τ : Nat → Nat} {L : Nat} {xs : Nat → Int32}
theorem zq112_0 : zSl l D γ τ L xs 112 cX11_make zp112 0 [zo_ld 2 0, zo_vcallI 138 1 2 17, zo_st 0 1, zo_ld 0 1, zo_iflt 23, zo_push 0 0, zo_st 0 2, zo_ld 0 2, zo_push 0 3, zo_icge 23, zo_ld 2 0, zo_getR 11 0, zo_getR 0 0, zo_ld 0 2, zo_aald 3, zo_ld 2 0, zo_getR 11 6, zo_getR 10 3, zo_ld 0 2, zo_aald 3, zo_vcallN 14 2 3 7, zo_iinc 2 1, zo_goto 7, zo_ld 0 1, zo_iret] :=
  ⟨so_aload_n rfl rfl (by decide +kernel : decode cX11_make 0 = .ok (.aload_n 0, 1)) rfl,
   so_vcallI rfl rfl (zrun_V (by decide +kernel : decode cX11_make 1 = .ok (.invokevirtual 259, 3)) rfl (zCal_mk zcc_138 (by decide +kernel)) (zvc_11) ⟨zt_726, zt_728, zs_13⟩) ⟨zcc_138.1, rfl⟩,
   so_istore_n rfl rfl (by decide +kernel : decode cX11_make 4 = .ok (.istore_n 1, 1)) rfl,
   so_iload_n rfl rfl (by decide +kernel : decode cX11_make 5 = .ok (.iload_n 1, 1)) rfl,
   so_iflt rfl rfl rfl (by decide +kernel : decode cX11_make 6 = .ok (.ifCond .lt 37, 3)) (by decide),
   so_iconst rfl rfl (by decide +kernel : decode cX11_make 9 = .ok (.iconst 0, 1)) (by decide),
   so_istore_n rfl rfl (by decide +kernel : decode cX11_make 10 = .ok (.istore_n 2, 1)) rfl,
   so_iload_n rfl rfl (by decide +kernel : decode cX11_make 11 = .ok (.iload_n 2, 1)) rfl,
   so_iconst rfl rfl (by decide +kernel : decode cX11_make 12 = .ok (.iconst 3, 1)) (by decide),
   so_icge rfl rfl rfl (by decide +kernel : decode cX11_make 13 = .ok (.if_icmp .ge 30, 3)) (by decide),
   so_aload_n rfl rfl (by decide +kernel : decode cX11_make 16 = .ok (.aload_n 0, 1)) rfl,
   so_getR (jn := 0) rfl rfl (by decide +kernel : decode cX11_make 17 = .ok (.getfield 12, 3)) rfl zcl_11 ⟨by decide, rfl, rfl, rfl⟩ zt_412,
   so_getR (jn := 0) rfl rfl (by decide +kernel : decode cX11_make 20 = .ok (.getfield 89, 3)) rfl zcl_0 ⟨by decide, rfl, rfl, rfl⟩ zt_71,
   so_iload_n rfl rfl (by decide +kernel : decode cX11_make 23 = .ok (.iload_n 2, 1)) rfl,
   so_aald3 rfl rfl (by decide +kernel : decode cX11_make 24 = .ok (.aaload, 1)),
   so_aload_n rfl rfl (by decide +kernel : decode cX11_make 25 = .ok (.aload_n 0, 1)) rfl,
   so_getR (jn := 6) rfl rfl (by decide +kernel : decode cX11_make 26 = .ok (.getfield 58, 3)) rfl zcl_11 ⟨by decide, rfl, rfl, rfl⟩ zt_418,
   so_getR (jn := 3) rfl rfl (by decide +kernel : decode cX11_make 29 = .ok (.getfield 262, 3)) rfl zcl_10 ⟨by decide, rfl, rfl, rfl⟩ zt_287,
   so_iload_n rfl rfl (by decide +kernel : decode cX11_make 32 = .ok (.iload_n 2, 1)) rfl,
   so_aald3 rfl rfl (by decide +kernel : decode cX11_make 33 = .ok (.aaload, 1)),
   so_vcallN rfl rfl (zrun_V (by decide +kernel : decode cX11_make 34 = .ok (.invokevirtual 265, 3)) rfl (zCal_mk zcc_14 (by decide +kernel)) (zvc_1) ⟨zt_771, zt_772, zt_773⟩) ⟨zcc_14.1, rfl⟩,
   so_iinc rfl rfl (by decide +kernel : decode cX11_make 37 = .ok (.iinc 2 1, 3)),
   so_goto rfl rfl (by decide +kernel : decode cX11_make 40 = .ok (.goto (-29), 3)) (by decide),
   so_iload_n rfl rfl (by decide +kernel : decode cX11_make 43 = .ok (.iload_n 1, 1)) rfl,
   so_iret rfl (by decide +kernel : decode cX11_make 44 = .ok (.ireturn, 1)) rfl, trivial⟩
theorem zq112 (hst : l.stackTraces = false) (i : Nat) : zSO l D γ τ L xs 112 cX11_make zp112 i (zc112.getD i zo_stuck) := zSl_at (zq112_0) i
end
section
variable {l : Launch} {D : va_G} {γ : Nat → ClassId} {τ : Nat → Nat} {L : Nat} {xs : Nat → Int32}
theorem zq113_0 : zSl l D γ τ L xs 113 cX11_spot zp113 0 [zo_ld 0 1, zo_push 0 1, zo_push 0 4000, zo_callI 133 3 3, zo_ifeq 9, zo_ld 0 2, zo_ld 0 3, zo_callI 135 2 2, zo_ifne 11, zo_push 0 (-1), zo_iret, zo_ld 2 0, zo_getR 11 7, zo_getI 2 2, zo_push 0 12, zo_iclt 18, zo_push 0 (-2), zo_iret, zo_ld 2 0, zo_getR 11 7, zo_ld 0 1, zo_ld 0 2, zo_ld 0 3, zo_vcallN 17 4 6 8, zo_ld 2 0, zo_getR 11 7, zo_getI 2 2, zo_iret] :=
  ⟨so_iload_n rfl rfl (by decide +kernel : decode cX11_spot 0 = .ok (.iload_n 1, 1)) rfl,
   so_iconst rfl rfl (by decide +kernel : decode cX11_spot 1 = .ok (.iconst 1, 1)) (by decide),
   so_sipush rfl rfl (by decide +kernel : decode cX11_spot 2 = .ok (.sipush 4000, 3)) (by decide),
   so_callI rfl rfl (zrun_S (by decide +kernel : decode cX11_spot 5 = .ok (.invokestatic 85, 3)) rfl (zCal_mk zcc_133 (by decide +kernel)) ⟨zt_454, zt_455⟩) ⟨zcc_133.1, rfl⟩,
   so_ifeq rfl rfl rfl (by decide +kernel : decode cX11_spot 8 = .ok (.ifCond .eq 11, 3)) (by decide),
   so_iload_n rfl rfl (by decide +kernel : decode cX11_spot 11 = .ok (.iload_n 2, 1)) rfl,
   so_iload_n rfl rfl (by decide +kernel : decode cX11_spot 12 = .ok (.iload_n 3, 1)) rfl,
   so_callI rfl rfl (zrun_S (by decide +kernel : decode cX11_spot 13 = .ok (.invokestatic 130, 3)) rfl (zCal_mk zcc_135 (by decide +kernel)) ⟨zt_494, zt_495⟩) ⟨zcc_135.1, rfl⟩,
   so_ifne rfl rfl rfl (by decide +kernel : decode cX11_spot 16 = .ok (.ifCond .ne 5, 3)) (by decide),
   so_iconst rfl rfl (by decide +kernel : decode cX11_spot 19 = .ok (.iconst (-1), 1)) (by decide),
   so_iret rfl (by decide +kernel : decode cX11_spot 20 = .ok (.ireturn, 1)) rfl,
   so_aload_n rfl rfl (by decide +kernel : decode cX11_spot 21 = .ok (.aload_n 0, 1)) rfl,
   so_getR (jn := 7) rfl rfl (by decide +kernel : decode cX11_spot 22 = .ok (.getfield 67, 3)) rfl zcl_11 ⟨by decide, rfl, rfl, rfl⟩ zt_419,
   so_getI (jn := 2) rfl rfl (by decide +kernel : decode cX11_spot 25 = .ok (.getfield 269, 3)) rfl zcl_2 ⟨by decide, rfl, rfl, rfl⟩ zt_326,
   so_bipush rfl rfl (by decide +kernel : decode cX11_spot 28 = .ok (.bipush 12, 2)) (by decide),
   so_iclt rfl rfl rfl (by decide +kernel : decode cX11_spot 30 = .ok (.if_icmp .lt 6, 3)) (by decide),
   so_bipush rfl rfl (by decide +kernel : decode cX11_spot 33 = .ok (.bipush (-2), 2)) (by decide),
   so_iret rfl (by decide +kernel : decode cX11_spot 35 = .ok (.ireturn, 1)) rfl,
   so_aload_n rfl rfl (by decide +kernel : decode cX11_spot 36 = .ok (.aload_n 0, 1)) rfl,
   so_getR (jn := 7) rfl rfl (by decide +kernel : decode cX11_spot 37 = .ok (.getfield 67, 3)) rfl zcl_11 ⟨by decide, rfl, rfl, rfl⟩ zt_419,
   so_iload_n rfl rfl (by decide +kernel : decode cX11_spot 40 = .ok (.iload_n 1, 1)) rfl,
   so_iload_n rfl rfl (by decide +kernel : decode cX11_spot 41 = .ok (.iload_n 2, 1)) rfl,
   so_iload_n rfl rfl (by decide +kernel : decode cX11_spot 42 = .ok (.iload_n 3, 1)) rfl,
   so_vcallN rfl rfl (zrun_V (by decide +kernel : decode cX11_spot 43 = .ok (.invokevirtual 272, 3)) rfl (zCal_mk zcc_17 (by decide +kernel)) (zvc_2) ⟨zt_779, zt_780, zt_781⟩) ⟨zcc_17.1, rfl⟩,
   so_aload_n rfl rfl (by decide +kernel : decode cX11_spot 46 = .ok (.aload_n 0, 1)) rfl,
   so_getR (jn := 7) rfl rfl (by decide +kernel : decode cX11_spot 47 = .ok (.getfield 67, 3)) rfl zcl_11 ⟨by decide, rfl, rfl, rfl⟩ zt_419,
   so_getI (jn := 2) rfl rfl (by decide +kernel : decode cX11_spot 50 = .ok (.getfield 269, 3)) rfl zcl_2 ⟨by decide, rfl, rfl, rfl⟩ zt_326,
   so_iret rfl (by decide +kernel : decode cX11_spot 53 = .ok (.ireturn, 1)) rfl, trivial⟩
theorem zq113 (hst : l.stackTraces = false) (i : Nat) : zSO l D γ τ L xs 113 cX11_spot zp113 i (zc113.getD i zo_stuck) := zSl_at (zq113_0) i
end
section
variable {l : Launch} {D : va_G} {γ : Nat → ClassId} {τ : Nat → Nat} {L : Nat} {xs : Nat → Int32}
theorem zq114_0 : zSl l D γ τ L xs 114 cX11_spotless zp114 0 [zo_ld 2 0, zo_getR 11 7, zo_getI 2 2, zo_st 0 1, zo_ld 2 0, zo_getR 11 7, zo_push 0 0, zo_putI 2 2, zo_ld 0 1, zo_iret] :=
  ⟨so_aload_n rfl rfl (by decide +kernel : decode cX11_spotless 0 = .ok (.aload_n 0, 1)) rfl,
   so_getR (jn := 7) rfl rfl (by decide +kernel : decode cX11_spotless 1 = .ok (.getfield 67, 3)) rfl zcl_11 ⟨by decide, rfl, rfl, rfl⟩ zt_419,
   so_getI (jn := 2) rfl rfl (by decide +kernel : decode cX11_spotless 4 = .ok (.getfield 269, 3)) rfl zcl_2 ⟨by decide, rfl, rfl, rfl⟩ zt_326,
   so_istore_n rfl rfl (by decide +kernel : decode cX11_spotless 7 = .ok (.istore_n 1, 1)) rfl,
   so_aload_n rfl rfl (by decide +kernel : decode cX11_spotless 8 = .ok (.aload_n 0, 1)) rfl,
   so_getR (jn := 7) rfl rfl (by decide +kernel : decode cX11_spotless 9 = .ok (.getfield 67, 3)) rfl zcl_11 ⟨by decide, rfl, rfl, rfl⟩ zt_419,
   so_iconst rfl rfl (by decide +kernel : decode cX11_spotless 12 = .ok (.iconst 0, 1)) (by decide),
   so_putI (jn := 2) rfl rfl (by decide +kernel : decode cX11_spotless 13 = .ok (.putfield 269, 3)) rfl zcl_2 ⟨by decide, rfl, rfl, rfl, rfl⟩ zt_326,
   so_iload_n rfl rfl (by decide +kernel : decode cX11_spotless 16 = .ok (.iload_n 1, 1)) rfl,
   so_iret rfl (by decide +kernel : decode cX11_spotless 17 = .ok (.ireturn, 1)) rfl, trivial⟩
theorem zq114 (hst : l.stackTraces = false) (i : Nat) : zSO l D γ τ L xs 114 cX11_spotless zp114 i (zc114.getD i zo_stuck) := zSl_at (zq114_0) i
end
section
variable {l : Launch} {D : va_G} {γ : Nat → ClassId} {τ : Nat → Nat} {L : Nat} {xs : Nat → Int32}
theorem zq115_0 : zSl l D γ τ L xs 115 cX11_miss zp115 0 [zo_ld 2 0, zo_getR 11 0, zo_vcallI 6 1 3 6, zo_ifle 6, zo_push 0 (-3), zo_goto 9, zo_ld 2 0, zo_getR 11 7, zo_vcallI 18 1 3 8, zo_iret] :=
  ⟨so_aload_n rfl rfl (by decide +kernel : decode cX11_miss 0 = .ok (.aload_n 0, 1)) rfl,
   so_getR (jn := 0) rfl rfl (by decide +kernel : decode cX11_miss 1 = .ok (.getfield 12, 3)) rfl zcl_11 ⟨by decide, rfl, rfl, rfl⟩ zt_412,
   so_vcallI rfl rfl (zrun_V (by decide +kernel : decode cX11_miss 4 = .ok (.invokevirtual 177, 3)) rfl (zCal_mk zcc_6 (by decide +kernel)) (zvc_0) ⟨zt_552, zt_553, zt_554⟩) ⟨zcc_6.1, rfl⟩,
   so_ifle rfl rfl rfl (by decide +kernel : decode cX11_miss 7 = .ok (.ifCond .le 8, 3)) (by decide),
   so_bipush rfl rfl (by decide +kernel : decode cX11_miss 10 = .ok (.bipush (-3), 2)) (by decide),
   so_goto rfl rfl (by decide +kernel : decode cX11_miss 12 = .ok (.goto 10, 3)) (by decide),
   so_aload_n rfl rfl (by decide +kernel : decode cX11_miss 15 = .ok (.aload_n 0, 1)) rfl,
   so_getR (jn := 7) rfl rfl (by decide +kernel : decode cX11_miss 16 = .ok (.getfield 67, 3)) rfl zcl_11 ⟨by decide, rfl, rfl, rfl⟩ zt_419,
   so_vcallI rfl rfl (zrun_V (by decide +kernel : decode cX11_miss 19 = .ok (.invokevirtual 275, 3)) rfl (zCal_mk zcc_18 (by decide +kernel)) (zvc_2) ⟨zt_795, zt_796, zt_797⟩) ⟨zcc_18.1, rfl⟩,
   so_iret rfl (by decide +kernel : decode cX11_miss 22 = .ok (.ireturn, 1)) rfl, trivial⟩
theorem zq115 (hst : l.stackTraces = false) (i : Nat) : zSO l D γ τ L xs 115 cX11_miss zp115 i (zc115.getD i zo_stuck) := zSl_at (zq115_0) i
end
section
variable {l : Launch} {D : va_G} {γ : Nat → ClassId} {τ : Nat → Nat} {L : Nat} {xs : Nat → Int32}
theorem zq116_0 : zSl l D γ τ L xs 116 cX11_fillings zp116 0 [zo_ld 2 0, zo_getR 11 0, zo_vcallI 6 1 3 6, zo_push 0 6, zo_icle 7, zo_push 0 (-6), zo_iret, zo_ld 2 0, zo_getR 11 7, zo_vcallN 21 1 6 8, zo_ld 2 0, zo_getR 11 7, zo_getI 2 11, zo_iret] :=
  ⟨so_aload_n rfl rfl (by decide +kernel : decode cX11_fillings 0 = .ok (.aload_n 0, 1)) rfl,
   so_getR (jn := 0) rfl rfl (by decide +kernel : decode cX11_fillings 1 = .ok (.getfield 12, 3)) rfl zcl_11 ⟨by decide, rfl, rfl, rfl⟩ zt_412,
   so_vcallI rfl rfl (zrun_V (by decide +kernel : decode cX11_fillings 4 = .ok (.invokevirtual 177, 3)) rfl (zCal_mk zcc_6 (by decide +kernel)) (zvc_0) ⟨zt_552, zt_553, zt_554⟩) ⟨zcc_6.1, rfl⟩,
   so_bipush rfl rfl (by decide +kernel : decode cX11_fillings 7 = .ok (.bipush 6, 2)) (by decide),
   so_icle rfl rfl rfl (by decide +kernel : decode cX11_fillings 9 = .ok (.if_icmp .le 6, 3)) (by decide),
   so_bipush rfl rfl (by decide +kernel : decode cX11_fillings 12 = .ok (.bipush (-6), 2)) (by decide),
   so_iret rfl (by decide +kernel : decode cX11_fillings 14 = .ok (.ireturn, 1)) rfl,
   so_aload_n rfl rfl (by decide +kernel : decode cX11_fillings 15 = .ok (.aload_n 0, 1)) rfl,
   so_getR (jn := 7) rfl rfl (by decide +kernel : decode cX11_fillings 16 = .ok (.getfield 67, 3)) rfl zcl_11 ⟨by decide, rfl, rfl, rfl⟩ zt_419,
   so_vcallN rfl rfl (zrun_V (by decide +kernel : decode cX11_fillings 19 = .ok (.invokevirtual 278, 3)) rfl (zCal_mk zcc_21 (by decide +kernel)) (zvc_2) ⟨zt_817, zt_818, zt_819⟩) ⟨zcc_21.1, rfl⟩,
   so_aload_n rfl rfl (by decide +kernel : decode cX11_fillings 22 = .ok (.aload_n 0, 1)) rfl,
   so_getR (jn := 7) rfl rfl (by decide +kernel : decode cX11_fillings 23 = .ok (.getfield 67, 3)) rfl zcl_11 ⟨by decide, rfl, rfl, rfl⟩ zt_419,
   so_getI (jn := 11) rfl rfl (by decide +kernel : decode cX11_fillings 26 = .ok (.getfield 281, 3)) rfl zcl_2 ⟨by decide, rfl, rfl, rfl⟩ zt_336,
   so_iret rfl (by decide +kernel : decode cX11_fillings 29 = .ok (.ireturn, 1)) rfl, trivial⟩
theorem zq116 (hst : l.stackTraces = false) (i : Nat) : zSO l D γ τ L xs 116 cX11_fillings zp116 i (zc116.getD i zo_stuck) := zSl_at (zq116_0) i
end
section
variable {l : Launch} {D : va_G} {γ : Nat → ClassId} {τ : Nat → Nat} {L : Nat} {xs : Nat → Int32}
theorem zq117_0 : zSl l D γ τ L xs 117 cX11_filling zp117 0 [zo_ld 0 1, zo_ifge 4, zo_push 0 (-1), zo_iret, zo_ld 2 0, zo_getR 11 0, zo_vcallI 6 1 3 6, zo_push 0 6, zo_icle 11, zo_push 0 (-6), zo_iret, zo_ld 2 0, zo_getR 11 7, zo_vcallN 21 1 6 8, zo_ld 2 0, zo_getR 11 7, zo_ld 0 1, zo_vcallI 19 2 2 8, zo_iret] :=
  ⟨so_iload_n rfl rfl (by decide +kernel : decode cX11_filling 0 = .ok (.iload_n 1, 1)) rfl,
   so_ifge rfl rfl rfl (by decide +kernel : decode cX11_filling 1 = .ok (.ifCond .ge 5, 3)) (by decide),
   so_iconst rfl rfl (by decide +kernel : decode cX11_filling 4 = .ok (.iconst (-1), 1)) (by decide),
   so_iret rfl (by decide +kernel : decode cX11_filling 5 = .ok (.ireturn, 1)) rfl,
   so_aload_n rfl rfl (by decide +kernel : decode cX11_filling 6 = .ok (.aload_n 0, 1)) rfl,
   so_getR (jn := 0) rfl rfl (by decide +kernel : decode cX11_filling 7 = .ok (.getfield 12, 3)) rfl zcl_11 ⟨by decide, rfl, rfl, rfl⟩ zt_412,
   so_vcallI rfl rfl (zrun_V (by decide +kernel : decode cX11_filling 10 = .ok (.invokevirtual 177, 3)) rfl (zCal_mk zcc_6 (by decide +kernel)) (zvc_0) ⟨zt_552, zt_553, zt_554⟩) ⟨zcc_6.1, rfl⟩,
   so_bipush rfl rfl (by decide +kernel : decode cX11_filling 13 = .ok (.bipush 6, 2)) (by decide),
   so_icle rfl rfl rfl (by decide +kernel : decode cX11_filling 15 = .ok (.if_icmp .le 6, 3)) (by decide),
   so_bipush rfl rfl (by decide +kernel : decode cX11_filling 18 = .ok (.bipush (-6), 2)) (by decide),
   so_iret rfl (by decide +kernel : decode cX11_filling 20 = .ok (.ireturn, 1)) rfl,
   so_aload_n rfl rfl (by decide +kernel : decode cX11_filling 21 = .ok (.aload_n 0, 1)) rfl,
   so_getR (jn := 7) rfl rfl (by decide +kernel : decode cX11_filling 22 = .ok (.getfield 67, 3)) rfl zcl_11 ⟨by decide, rfl, rfl, rfl⟩ zt_419,
   so_vcallN rfl rfl (zrun_V (by decide +kernel : decode cX11_filling 25 = .ok (.invokevirtual 278, 3)) rfl (zCal_mk zcc_21 (by decide +kernel)) (zvc_2) ⟨zt_817, zt_818, zt_819⟩) ⟨zcc_21.1, rfl⟩,
   so_aload_n rfl rfl (by decide +kernel : decode cX11_filling 28 = .ok (.aload_n 0, 1)) rfl,
   so_getR (jn := 7) rfl rfl (by decide +kernel : decode cX11_filling 29 = .ok (.getfield 67, 3)) rfl zcl_11 ⟨by decide, rfl, rfl, rfl⟩ zt_419,
   so_iload_n rfl rfl (by decide +kernel : decode cX11_filling 32 = .ok (.iload_n 1, 1)) rfl,
   so_vcallI rfl rfl (zrun_V (by decide +kernel : decode cX11_filling 33 = .ok (.invokevirtual 284, 3)) rfl (zCal_mk zcc_19 (by decide +kernel)) (zvc_2) ⟨zt_841, zt_842, zt_843⟩) ⟨zcc_19.1, rfl⟩,
   so_iret rfl (by decide +kernel : decode cX11_filling 36 = .ok (.ireturn, 1)) rfl, trivial⟩
theorem zq117 (hst : l.stackTraces = false) (i : Nat) : zSO l D γ τ L xs 117 cX11_filling zp117 i (zc117.getD i zo_stuck) := zSl_at (zq117_0) i
end
section
variable {l : Launch} {D : va_G} {γ : Nat → ClassId} {τ : Nat → Nat} {L : Nat} {xs : Nat → Int32}
theorem zq118_0 : zSl l D γ τ L xs 118 cX11_fill zp118 0 [zo_ld 2 0, zo_getR 11 0, zo_vcallI 6 1 3 6, zo_st 0 2, zo_ld 0 1, zo_iflt 12, zo_ld 0 1, zo_i2l, zo_ld 0 2, zo_callL 20 1 4, zo_lcmp, zo_iflt 14, zo_push 0 (-1), zo_iret, zo_ld 0 2, zo_push 0 6, zo_icle 19, zo_push 0 (-6), zo_iret, zo_ld 2 0, zo_getR 11 7, zo_ld 0 1, zo_vcallN 22 2 4 8, zo_ld 0 2, zo_iret] :=
  ⟨so_aload_n rfl rfl (by decide +kernel : decode cX11_fill 0 = .ok (.aload_n 0, 1)) rfl,
   so_getR (jn := 0) rfl rfl (by decide +kernel : decode cX11_fill 1 = .ok (.getfield 12, 3)) rfl zcl_11 ⟨by decide, rfl, rfl, rfl⟩ zt_412,
   so_vcallI rfl rfl (zrun_V (by decide +kernel : decode cX11_fill 4 = .ok (.invokevirtual 177, 3)) rfl (zCal_mk zcc_6 (by decide +kernel)) (zvc_0) ⟨zt_552, zt_553, zt_554⟩) ⟨zcc_6.1, rfl⟩,
   so_istore_n rfl rfl (by decide +kernel : decode cX11_fill 7 = .ok (.istore_n 2, 1)) rfl,
   so_iload_n rfl rfl (by decide +kernel : decode cX11_fill 8 = .ok (.iload_n 1, 1)) rfl,
   so_iflt rfl rfl rfl (by decide +kernel : decode cX11_fill 9 = .ok (.ifCond .lt 13, 3)) (by decide),
   so_iload_n rfl rfl (by decide +kernel : decode cX11_fill 12 = .ok (.iload_n 1, 1)) rfl,
   so_i2l rfl rfl (by decide +kernel : decode cX11_fill 13 = .ok (.i2l, 1)),
   so_iload_n rfl rfl (by decide +kernel : decode cX11_fill 14 = .ok (.iload_n 2, 1)) rfl,
   so_callL rfl rfl (zrun_S (by decide +kernel : decode cX11_fill 15 = .ok (.invokestatic 287, 3)) rfl (zCal_mk zcc_20 (by decide +kernel)) ⟨zt_849, zt_826⟩) ⟨zcc_20.1, rfl⟩,
   so_lcmp rfl rfl (by decide +kernel : decode cX11_fill 18 = .ok (.lcmp, 1)),
   so_iflt rfl rfl rfl (by decide +kernel : decode cX11_fill 19 = .ok (.ifCond .lt 5, 3)) (by decide),
   so_iconst rfl rfl (by decide +kernel : decode cX11_fill 22 = .ok (.iconst (-1), 1)) (by decide),
   so_iret rfl (by decide +kernel : decode cX11_fill 23 = .ok (.ireturn, 1)) rfl,
   so_iload_n rfl rfl (by decide +kernel : decode cX11_fill 24 = .ok (.iload_n 2, 1)) rfl,
   so_bipush rfl rfl (by decide +kernel : decode cX11_fill 25 = .ok (.bipush 6, 2)) (by decide),
   so_icle rfl rfl rfl (by decide +kernel : decode cX11_fill 27 = .ok (.if_icmp .le 6, 3)) (by decide),
   so_bipush rfl rfl (by decide +kernel : decode cX11_fill 30 = .ok (.bipush (-6), 2)) (by decide),
   so_iret rfl (by decide +kernel : decode cX11_fill 32 = .ok (.ireturn, 1)) rfl,
   so_aload_n rfl rfl (by decide +kernel : decode cX11_fill 33 = .ok (.aload_n 0, 1)) rfl,
   so_getR (jn := 7) rfl rfl (by decide +kernel : decode cX11_fill 34 = .ok (.getfield 67, 3)) rfl zcl_11 ⟨by decide, rfl, rfl, rfl⟩ zt_419,
   so_iload_n rfl rfl (by decide +kernel : decode cX11_fill 37 = .ok (.iload_n 1, 1)) rfl,
   so_vcallN rfl rfl (zrun_V (by decide +kernel : decode cX11_fill 38 = .ok (.invokevirtual 291, 3)) rfl (zCal_mk zcc_22 (by decide +kernel)) (zvc_2) ⟨zt_850, zt_851, zt_852⟩) ⟨zcc_22.1, rfl⟩,
   so_iload_n rfl rfl (by decide +kernel : decode cX11_fill 41 = .ok (.iload_n 2, 1)) rfl,
   so_iret rfl (by decide +kernel : decode cX11_fill 42 = .ok (.ireturn, 1)) rfl, trivial⟩
theorem zq118 (hst : l.stackTraces = false) (i : Nat) : zSO l D γ τ L xs 118 cX11_fill zp118 i (zc118.getD i zo_stuck) := zSl_at (zq118_0) i
end
section
variable {l : Launch} {D : va_G} {γ : Nat → ClassId} {τ : Nat → Nat} {L : Nat} {xs : Nat → Int32}
theorem zq119_0 : zSl l D γ τ L xs 119 cX11_slips zp119 0 [zo_ld 2 0, zo_getR 11 0, zo_vcallI 6 1 3 6, zo_ifle 6, zo_push 0 (-3), zo_iret, zo_ld 2 0, zo_getR 11 7, zo_vcallN 23 1 2 8, zo_ld 2 0, zo_getR 11 7, zo_getI 2 11, zo_iret] :=
  ⟨so_aload_n rfl rfl (by decide +kernel : decode cX11_slips 0 = .ok (.aload_n 0, 1)) rfl,
   so_getR (jn := 0) rfl rfl (by decide +kernel : decode cX11_slips 1 = .ok (.getfield 12, 3)) rfl zcl_11 ⟨by decide, rfl, rfl, rfl⟩ zt_412,
   so_vcallI rfl rfl (zrun_V (by decide +kernel : decode cX11_slips 4 = .ok (.invokevirtual 177, 3)) rfl (zCal_mk zcc_6 (by decide +kernel)) (zvc_0) ⟨zt_552, zt_553, zt_554⟩) ⟨zcc_6.1, rfl⟩,
   so_ifle rfl rfl rfl (by decide +kernel : decode cX11_slips 7 = .ok (.ifCond .le 6, 3)) (by decide),
   so_bipush rfl rfl (by decide +kernel : decode cX11_slips 10 = .ok (.bipush (-3), 2)) (by decide),
   so_iret rfl (by decide +kernel : decode cX11_slips 12 = .ok (.ireturn, 1)) rfl,
   so_aload_n rfl rfl (by decide +kernel : decode cX11_slips 13 = .ok (.aload_n 0, 1)) rfl,
   so_getR (jn := 7) rfl rfl (by decide +kernel : decode cX11_slips 14 = .ok (.getfield 67, 3)) rfl zcl_11 ⟨by decide, rfl, rfl, rfl⟩ zt_419,
   so_vcallN rfl rfl (zrun_V (by decide +kernel : decode cX11_slips 17 = .ok (.invokevirtual 294, 3)) rfl (zCal_mk zcc_23 (by decide +kernel)) (zvc_2) ⟨zt_858, zt_859, zt_860⟩) ⟨zcc_23.1, rfl⟩,
   so_aload_n rfl rfl (by decide +kernel : decode cX11_slips 20 = .ok (.aload_n 0, 1)) rfl,
   so_getR (jn := 7) rfl rfl (by decide +kernel : decode cX11_slips 21 = .ok (.getfield 67, 3)) rfl zcl_11 ⟨by decide, rfl, rfl, rfl⟩ zt_419,
   so_getI (jn := 11) rfl rfl (by decide +kernel : decode cX11_slips 24 = .ok (.getfield 281, 3)) rfl zcl_2 ⟨by decide, rfl, rfl, rfl⟩ zt_336,
   so_iret rfl (by decide +kernel : decode cX11_slips 27 = .ok (.ireturn, 1)) rfl, trivial⟩
theorem zq119 (hst : l.stackTraces = false) (i : Nat) : zSO l D γ τ L xs 119 cX11_slips zp119 i (zc119.getD i zo_stuck) := zSl_at (zq119_0) i
end
section
variable {l : Launch} {D : va_G} {γ : Nat → ClassId} {τ : Nat → Nat} {L : Nat} {xs : Nat → Int32}
theorem zq120_0 : zSl l D γ τ L xs 120 cX11_slip zp120 0 [zo_ld 0 1, zo_ifge 4, zo_push 0 (-1), zo_iret, zo_ld 2 0, zo_getR 11 0, zo_vcallI 6 1 3 6, zo_ifle 10, zo_push 0 (-3), zo_iret, zo_ld 2 0, zo_getR 11 7, zo_vcallN 23 1 2 8, zo_ld 2 0, zo_getR 11 7, zo_ld 0 1, zo_vcallI 19 2 2 8, zo_iret] :=
  ⟨so_iload_n rfl rfl (by decide +kernel : decode cX11_slip 0 = .ok (.iload_n 1, 1)) rfl,
   so_ifge rfl rfl rfl (by decide +kernel : decode cX11_slip 1 = .ok (.ifCond .ge 5, 3)) (by decide),
   so_iconst rfl rfl (by decide +kernel : decode cX11_slip 4 = .ok (.iconst (-1), 1)) (by decide),
   so_iret rfl (by decide +kernel : decode cX11_slip 5 = .ok (.ireturn, 1)) rfl,
   so_aload_n rfl rfl (by decide +kernel : decode cX11_slip 6 = .ok (.aload_n 0, 1)) rfl,
   so_getR (jn := 0) rfl rfl (by decide +kernel : decode cX11_slip 7 = .ok (.getfield 12, 3)) rfl zcl_11 ⟨by decide, rfl, rfl, rfl⟩ zt_412,
   so_vcallI rfl rfl (zrun_V (by decide +kernel : decode cX11_slip 10 = .ok (.invokevirtual 177, 3)) rfl (zCal_mk zcc_6 (by decide +kernel)) (zvc_0) ⟨zt_552, zt_553, zt_554⟩) ⟨zcc_6.1, rfl⟩,
   so_ifle rfl rfl rfl (by decide +kernel : decode cX11_slip 13 = .ok (.ifCond .le 6, 3)) (by decide),
   so_bipush rfl rfl (by decide +kernel : decode cX11_slip 16 = .ok (.bipush (-3), 2)) (by decide),
   so_iret rfl (by decide +kernel : decode cX11_slip 18 = .ok (.ireturn, 1)) rfl,
   so_aload_n rfl rfl (by decide +kernel : decode cX11_slip 19 = .ok (.aload_n 0, 1)) rfl,
   so_getR (jn := 7) rfl rfl (by decide +kernel : decode cX11_slip 20 = .ok (.getfield 67, 3)) rfl zcl_11 ⟨by decide, rfl, rfl, rfl⟩ zt_419,
   so_vcallN rfl rfl (zrun_V (by decide +kernel : decode cX11_slip 23 = .ok (.invokevirtual 294, 3)) rfl (zCal_mk zcc_23 (by decide +kernel)) (zvc_2) ⟨zt_858, zt_859, zt_860⟩) ⟨zcc_23.1, rfl⟩,
   so_aload_n rfl rfl (by decide +kernel : decode cX11_slip 26 = .ok (.aload_n 0, 1)) rfl,
   so_getR (jn := 7) rfl rfl (by decide +kernel : decode cX11_slip 27 = .ok (.getfield 67, 3)) rfl zcl_11 ⟨by decide, rfl, rfl, rfl⟩ zt_419,
   so_iload_n rfl rfl (by decide +kernel : decode cX11_slip 30 = .ok (.iload_n 1, 1)) rfl,
   so_vcallI rfl rfl (zrun_V (by decide +kernel : decode cX11_slip 31 = .ok (.invokevirtual 284, 3)) rfl (zCal_mk zcc_19 (by decide +kernel)) (zvc_2) ⟨zt_841, zt_842, zt_843⟩) ⟨zcc_19.1, rfl⟩,
   so_iret rfl (by decide +kernel : decode cX11_slip 34 = .ok (.ireturn, 1)) rfl, trivial⟩
theorem zq120 (hst : l.stackTraces = false) (i : Nat) : zSO l D γ τ L xs 120 cX11_slip zp120 i (zc120.getD i zo_stuck) := zSl_at (zq120_0) i
end
section
variable {l : Launch} {D : va_G} {γ : Nat → ClassId} {τ : Nat → Nat} {L : Nat} {xs : Nat → Int32}
theorem zq121_0 : zSl l D γ τ L xs 121 cX11_pair zp121 0 [zo_ld 2 0, zo_getR 11 0, zo_vcallI 6 1 3 6, zo_ifle 6, zo_push 0 (-3), zo_goto 9, zo_ld 2 0, zo_getR 11 7, zo_vcallI 24 1 3 8, zo_iret] :=
  ⟨so_aload_n rfl rfl (by decide +kernel : decode cX11_pair 0 = .ok (.aload_n 0, 1)) rfl,
   so_getR (jn := 0) rfl rfl (by decide +kernel : decode cX11_pair 1 = .ok (.getfield 12, 3)) rfl zcl_11 ⟨by decide, rfl, rfl, rfl⟩ zt_412,
   so_vcallI rfl rfl (zrun_V (by decide +kernel : decode cX11_pair 4 = .ok (.invokevirtual 177, 3)) rfl (zCal_mk zcc_6 (by decide +kernel)) (zvc_0) ⟨zt_552, zt_553, zt_554⟩) ⟨zcc_6.1, rfl⟩,
   so_ifle rfl rfl rfl (by decide +kernel : decode cX11_pair 7 = .ok (.ifCond .le 8, 3)) (by decide),
   so_bipush rfl rfl (by decide +kernel : decode cX11_pair 10 = .ok (.bipush (-3), 2)) (by decide),
   so_goto rfl rfl (by decide +kernel : decode cX11_pair 12 = .ok (.goto 10, 3)) (by decide),
   so_aload_n rfl rfl (by decide +kernel : decode cX11_pair 15 = .ok (.aload_n 0, 1)) rfl,
   so_getR (jn := 7) rfl rfl (by decide +kernel : decode cX11_pair 16 = .ok (.getfield 67, 3)) rfl zcl_11 ⟨by decide, rfl, rfl, rfl⟩ zt_419,
   so_vcallI rfl rfl (zrun_V (by decide +kernel : decode cX11_pair 19 = .ok (.invokevirtual 297, 3)) rfl (zCal_mk zcc_24 (by decide +kernel)) (zvc_2) ⟨zt_882, zt_883, zt_884⟩) ⟨zcc_24.1, rfl⟩,
   so_iret rfl (by decide +kernel : decode cX11_pair 22 = .ok (.ireturn, 1)) rfl, trivial⟩
theorem zq121 (hst : l.stackTraces = false) (i : Nat) : zSO l D γ τ L xs 121 cX11_pair zp121 i (zc121.getD i zo_stuck) := zSl_at (zq121_0) i
end
section
variable {l : Launch} {D : va_G} {γ : Nat → ClassId} {τ : Nat → Nat} {L : Nat} {xs : Nat → Int32}
theorem zq122_0 : zSl l D γ τ L xs 122 cX11_reads zp122 0 [zo_ld 2 0, zo_vcallI 138 1 2 17, zo_st 0 1, zo_ld 0 1, zo_ifge 7, zo_ld 0 1, zo_iret, zo_push 0 0, zo_st 0 2, zo_ld 0 2, zo_push 0 3, zo_icge 28, zo_ld 2 0, zo_getR 11 0, zo_getR 0 0, zo_ld 0 2, zo_aald 3, zo_ld 2 0, zo_getR 11 6, zo_getR 10 3, zo_ld 0 2, zo_aald 3, zo_vcallI 15 2 3 7, zo_ifne 26, zo_push 0 0, zo_iret, zo_iinc 2 1, zo_goto 9, zo_push 0 1, zo_iret] :=
  ⟨so_aload_n rfl rfl (by decide +kernel : decode cX11_reads 0 = .ok (.aload_n 0, 1)) rfl,
   so_vcallI rfl rfl (zrun_V (by decide +kernel : decode cX11_reads 1 = .ok (.invokevirtual 259, 3)) rfl (zCal_mk zcc_138 (by decide +kernel)) (zvc_11) ⟨zt_726, zt_728, zs_13⟩) ⟨zcc_138.1, rfl⟩,
   so_istore_n rfl rfl (by decide +kernel : decode cX11_reads 4 = .ok (.istore_n 1, 1)) rfl,
   so_iload_n rfl rfl (by decide +kernel : decode cX11_reads 5 = .ok (.iload_n 1, 1)) rfl,
   so_ifge rfl rfl rfl (by decide +kernel : decode cX11_reads 6 = .ok (.ifCond .ge 5, 3)) (by decide),
   so_iload_n rfl rfl (by decide +kernel : decode cX11_reads 9 = .ok (.iload_n 1, 1)) rfl,
   so_iret rfl (by decide +kernel : decode cX11_reads 10 = .ok (.ireturn, 1)) rfl,
   so_iconst rfl rfl (by decide +kernel : decode cX11_reads 11 = .ok (.iconst 0, 1)) (by decide),
   so_istore_n rfl rfl (by decide +kernel : decode cX11_reads 12 = .ok (.istore_n 2, 1)) rfl,
   so_iload_n rfl rfl (by decide +kernel : decode cX11_reads 13 = .ok (.iload_n 2, 1)) rfl,
   so_iconst rfl rfl (by decide +kernel : decode cX11_reads 14 = .ok (.iconst 3, 1)) (by decide),
   so_icge rfl rfl rfl (by decide +kernel : decode cX11_reads 15 = .ok (.if_icmp .ge 35, 3)) (by decide),
   so_aload_n rfl rfl (by decide +kernel : decode cX11_reads 18 = .ok (.aload_n 0, 1)) rfl,
   so_getR (jn := 0) rfl rfl (by decide +kernel : decode cX11_reads 19 = .ok (.getfield 12, 3)) rfl zcl_11 ⟨by decide, rfl, rfl, rfl⟩ zt_412,
   so_getR (jn := 0) rfl rfl (by decide +kernel : decode cX11_reads 22 = .ok (.getfield 89, 3)) rfl zcl_0 ⟨by decide, rfl, rfl, rfl⟩ zt_71,
   so_iload_n rfl rfl (by decide +kernel : decode cX11_reads 25 = .ok (.iload_n 2, 1)) rfl,
   so_aald3 rfl rfl (by decide +kernel : decode cX11_reads 26 = .ok (.aaload, 1)),
   so_aload_n rfl rfl (by decide +kernel : decode cX11_reads 27 = .ok (.aload_n 0, 1)) rfl,
   so_getR (jn := 6) rfl rfl (by decide +kernel : decode cX11_reads 28 = .ok (.getfield 58, 3)) rfl zcl_11 ⟨by decide, rfl, rfl, rfl⟩ zt_418,
   so_getR (jn := 3) rfl rfl (by decide +kernel : decode cX11_reads 31 = .ok (.getfield 262, 3)) rfl zcl_10 ⟨by decide, rfl, rfl, rfl⟩ zt_287,
   so_iload_n rfl rfl (by decide +kernel : decode cX11_reads 34 = .ok (.iload_n 2, 1)) rfl,
   so_aald3 rfl rfl (by decide +kernel : decode cX11_reads 35 = .ok (.aaload, 1)),
   so_vcallI rfl rfl (zrun_V (by decide +kernel : decode cX11_reads 36 = .ok (.invokevirtual 300, 3)) rfl (zCal_mk zcc_15 (by decide +kernel)) (zvc_1) ⟨zt_890, zt_891, zt_892⟩) ⟨zcc_15.1, rfl⟩,
   so_ifne rfl rfl rfl (by decide +kernel : decode cX11_reads 39 = .ok (.ifCond .ne 5, 3)) (by decide),
   so_iconst rfl rfl (by decide +kernel : decode cX11_reads 42 = .ok (.iconst 0, 1)) (by decide),
   so_iret rfl (by decide +kernel : decode cX11_reads 43 = .ok (.ireturn, 1)) rfl,
   so_iinc rfl rfl (by decide +kernel : decode cX11_reads 44 = .ok (.iinc 2 1, 3)),
   so_goto rfl rfl (by decide +kernel : decode cX11_reads 47 = .ok (.goto (-34), 3)) (by decide),
   so_iconst rfl rfl (by decide +kernel : decode cX11_reads 50 = .ok (.iconst 1, 1)) (by decide),
   so_iret rfl (by decide +kernel : decode cX11_reads 51 = .ok (.ireturn, 1)) rfl, trivial⟩
theorem zq122 (hst : l.stackTraces = false) (i : Nat) : zSO l D γ τ L xs 122 cX11_reads zp122 i (zc122.getD i zo_stuck) := zSl_at (zq122_0) i
end
section
variable {l : Launch} {D : va_G} {γ : Nat → ClassId} {τ : Nat → Nat} {L : Nat} {xs : Nat → Int32}
theorem zq123_0 : zSl l D γ τ L xs 123 cX11_tape zp123 0 [zo_ld 0 1, zo_callI 136 1 1, zo_ifeq 11, zo_ld 0 2, zo_push 0 1, zo_push 0 4, zo_callI 133 3 3, zo_ifeq 11, zo_ld 0 3, zo_push 0 64, zo_icle 13, zo_push 0 (-1), zo_iret, zo_ld 0 3, zo_ifge 19, zo_ld 2 0, zo_push 0 (-14), zo_vcallI 140 2 2 17, zo_iret, zo_ld 2 0, zo_getR 11 8, zo_ld 0 1, zo_aald 4, zo_ld 0 2, zo_ld 0 3, zo_vcallN 76 3 3 14, zo_ld 0 3, zo_iret] :=
  ⟨so_iload_n rfl rfl (by decide +kernel : decode cX11_tape 0 = .ok (.iload_n 1, 1)) rfl,
   so_callI rfl rfl (zrun_S (by decide +kernel : decode cX11_tape 1 = .ok (.invokestatic 143, 3)) rfl (zCal_mk zcc_136 (by decide +kernel)) ⟨zt_514, zt_515⟩) ⟨zcc_136.1, rfl⟩,
   so_ifeq rfl rfl rfl (by decide +kernel : decode cX11_tape 4 = .ok (.ifCond .eq 18, 3)) (by decide),
   so_iload_n rfl rfl (by decide +kernel : decode cX11_tape 7 = .ok (.iload_n 2, 1)) rfl,
   so_iconst rfl rfl (by decide +kernel : decode cX11_tape 8 = .ok (.iconst 1, 1)) (by decide),
   so_iconst rfl rfl (by decide +kernel : decode cX11_tape 9 = .ok (.iconst 4, 1)) (by decide),
   so_callI rfl rfl (zrun_S (by decide +kernel : decode cX11_tape 10 = .ok (.invokestatic 85, 3)) rfl (zCal_mk zcc_133 (by decide +kernel)) ⟨zt_454, zt_455⟩) ⟨zcc_133.1, rfl⟩,
   so_ifeq rfl rfl rfl (by decide +kernel : decode cX11_tape 13 = .ok (.ifCond .eq 9, 3)) (by decide),
   so_iload_n rfl rfl (by decide +kernel : decode cX11_tape 16 = .ok (.iload_n 3, 1)) rfl,
   so_bipush rfl rfl (by decide +kernel : decode cX11_tape 17 = .ok (.bipush 64, 2)) (by decide),
   so_icle rfl rfl rfl (by decide +kernel : decode cX11_tape 19 = .ok (.if_icmp .le 5, 3)) (by decide),
   so_iconst rfl rfl (by decide +kernel : decode cX11_tape 22 = .ok (.iconst (-1), 1)) (by decide),
   so_iret rfl (by decide +kernel : decode cX11_tape 23 = .ok (.ireturn, 1)) rfl,
   so_iload_n rfl rfl (by decide +kernel : decode cX11_tape 24 = .ok (.iload_n 3, 1)) rfl,
   so_ifge rfl rfl rfl (by decide +kernel : decode cX11_tape 25 = .ok (.ifCond .ge 10, 3)) (by decide),
   so_aload_n rfl rfl (by decide +kernel : decode cX11_tape 28 = .ok (.aload_n 0, 1)) rfl,
   so_bipush rfl rfl (by decide +kernel : decode cX11_tape 29 = .ok (.bipush (-14), 2)) (by decide),
   so_vcallI rfl rfl (zrun_V (by decide +kernel : decode cX11_tape 31 = .ok (.invokevirtual 149, 3)) rfl (zCal_mk zcc_140 (by decide +kernel)) (zvc_11) ⟨zt_517, zt_519, zs_1⟩) ⟨zcc_140.1, rfl⟩,
   so_iret rfl (by decide +kernel : decode cX11_tape 34 = .ok (.ireturn, 1)) rfl,
   so_aload_n rfl rfl (by decide +kernel : decode cX11_tape 35 = .ok (.aload_n 0, 1)) rfl,
   so_getR (jn := 8) rfl rfl (by decide +kernel : decode cX11_tape 36 = .ok (.getfield 73, 3)) rfl zcl_11 ⟨by decide, rfl, rfl, rfl⟩ zt_420,
   so_iload_n rfl rfl (by decide +kernel : decode cX11_tape 39 = .ok (.iload_n 1, 1)) rfl,
   so_aald4 rfl rfl (by decide +kernel : decode cX11_tape 40 = .ok (.aaload, 1)),
   so_iload_n rfl rfl (by decide +kernel : decode cX11_tape 41 = .ok (.iload_n 2, 1)) rfl,
   so_iload_n rfl rfl (by decide +kernel : decode cX11_tape 42 = .ok (.iload_n 3, 1)) rfl,
   so_vcallN rfl rfl (zrun_V (by decide +kernel : decode cX11_tape 43 = .ok (.invokevirtual 304, 3)) rfl (zCal_mk zcc_76 (by decide +kernel)) (zvc_8) ⟨zt_898, zt_899, zt_900⟩) ⟨zcc_76.1, rfl⟩,
   so_iload_n rfl rfl (by decide +kernel : decode cX11_tape 46 = .ok (.iload_n 3, 1)) rfl,
   so_iret rfl (by decide +kernel : decode cX11_tape 47 = .ok (.ireturn, 1)) rfl, trivial⟩
theorem zq123 (hst : l.stackTraces = false) (i : Nat) : zSO l D γ τ L xs 123 cX11_tape zp123 i (zc123.getD i zo_stuck) := zSl_at (zq123_0) i
end
section
variable {l : Launch} {D : va_G} {γ : Nat → ClassId} {τ : Nat → Nat} {L : Nat} {xs : Nat → Int32}
theorem zq124_0 : zSl l D γ τ L xs 124 cX11_keep zp124 0 [zo_ld 0 1, zo_callI 136 1 1, zo_ifne 5, zo_push 0 (-1), zo_iret, zo_ld 2 0, zo_getR 11 8, zo_ld 0 1, zo_aald 4, zo_push 0 5, zo_putI 8 0, zo_ld 2 0, zo_getR 11 8, zo_ld 0 1, zo_aald 4, zo_getR 8 3, zo_ld 2 0, zo_getR 11 0, zo_vcallN 2 2 3 6, zo_ld 2 0, zo_getR 11 0, zo_vcallI 5 1 3 6, zo_iret] :=
  ⟨so_iload_n rfl rfl (by decide +kernel : decode cX11_keep 0 = .ok (.iload_n 1, 1)) rfl,
   so_callI rfl rfl (zrun_S (by decide +kernel : decode cX11_keep 1 = .ok (.invokestatic 143, 3)) rfl (zCal_mk zcc_136 (by decide +kernel)) ⟨zt_514, zt_515⟩) ⟨zcc_136.1, rfl⟩,
   so_ifne rfl rfl rfl (by decide +kernel : decode cX11_keep 4 = .ok (.ifCond .ne 5, 3)) (by decide),
   so_iconst rfl rfl (by decide +kernel : decode cX11_keep 7 = .ok (.iconst (-1), 1)) (by decide),
   so_iret rfl (by decide +kernel : decode cX11_keep 8 = .ok (.ireturn, 1)) rfl,
   so_aload_n rfl rfl (by decide +kernel : decode cX11_keep 9 = .ok (.aload_n 0, 1)) rfl,
   so_getR (jn := 8) rfl rfl (by decide +kernel : decode cX11_keep 10 = .ok (.getfield 73, 3)) rfl zcl_11 ⟨by decide, rfl, rfl, rfl⟩ zt_420,
   so_iload_n rfl rfl (by decide +kernel : decode cX11_keep 13 = .ok (.iload_n 1, 1)) rfl,
   so_aald4 rfl rfl (by decide +kernel : decode cX11_keep 14 = .ok (.aaload, 1)),
   so_iconst rfl rfl (by decide +kernel : decode cX11_keep 15 = .ok (.iconst 5, 1)) (by decide),
   so_putI (jn := 0) rfl rfl (by decide +kernel : decode cX11_keep 16 = .ok (.putfield 146, 3)) rfl zcl_8 ⟨by decide, rfl, rfl, rfl, rfl⟩ zt_372,
   so_aload_n rfl rfl (by decide +kernel : decode cX11_keep 19 = .ok (.aload_n 0, 1)) rfl,
   so_getR (jn := 8) rfl rfl (by decide +kernel : decode cX11_keep 20 = .ok (.getfield 73, 3)) rfl zcl_11 ⟨by decide, rfl, rfl, rfl⟩ zt_420,
   so_iload_n rfl rfl (by decide +kernel : decode cX11_keep 23 = .ok (.iload_n 1, 1)) rfl,
   so_aald4 rfl rfl (by decide +kernel : decode cX11_keep 24 = .ok (.aaload, 1)),
   so_getR (jn := 3) rfl rfl (by decide +kernel : decode cX11_keep 25 = .ok (.getfield 307, 3)) rfl zcl_8 ⟨by decide, rfl, rfl, rfl⟩ zt_378,
   so_aload_n rfl rfl (by decide +kernel : decode cX11_keep 28 = .ok (.aload_n 0, 1)) rfl,
   so_getR (jn := 0) rfl rfl (by decide +kernel : decode cX11_keep 29 = .ok (.getfield 12, 3)) rfl zcl_11 ⟨by decide, rfl, rfl, rfl⟩ zt_412,
   so_vcallN rfl rfl (zrun_V (by decide +kernel : decode cX11_keep 32 = .ok (.invokevirtual 308, 3)) rfl (zCal_mk zcc_2 (by decide +kernel)) (zvc_0) ⟨zt_909, zt_910, zt_911⟩) ⟨zcc_2.1, rfl⟩,
   so_aload_n rfl rfl (by decide +kernel : decode cX11_keep 35 = .ok (.aload_n 0, 1)) rfl,
   so_getR (jn := 0) rfl rfl (by decide +kernel : decode cX11_keep 36 = .ok (.getfield 12, 3)) rfl zcl_11 ⟨by decide, rfl, rfl, rfl⟩ zt_412,
   so_vcallI rfl rfl (zrun_V (by decide +kernel : decode cX11_keep 39 = .ok (.invokevirtual 311, 3)) rfl (zCal_mk zcc_5 (by decide +kernel)) (zvc_0) ⟨zt_915, zt_916, zt_917⟩) ⟨zcc_5.1, rfl⟩,
   so_iret rfl (by decide +kernel : decode cX11_keep 42 = .ok (.ireturn, 1)) rfl, trivial⟩
theorem zq124 (hst : l.stackTraces = false) (i : Nat) : zSO l D γ τ L xs 124 cX11_keep zp124 i (zc124.getD i zo_stuck) := zSl_at (zq124_0) i
end
section
variable {l : Launch} {D : va_G} {γ : Nat → ClassId} {τ : Nat → Nat} {L : Nat} {xs : Nat → Int32}
theorem zq125_0 : zSl l D γ τ L xs 125 cX11_back zp125 0 [zo_ld 2 0, zo_ld 0 1, zo_vcallI 139 2 2 17, zo_st 0 2, zo_ld 0 2, zo_ifeq 8, zo_ld 0 2, zo_iret, zo_ld 2 0, zo_getR 11 0, zo_ld 2 0, zo_getR 11 8, zo_ld 0 1, zo_aald 4, zo_getR 8 3, zo_vcallN 2 2 3 6, zo_ld 2 0, zo_getR 11 0, zo_vcallI 5 1 3 6, zo_iret] :=
  ⟨so_aload_n rfl rfl (by decide +kernel : decode cX11_back 0 = .ok (.aload_n 0, 1)) rfl,
   so_iload_n rfl rfl (by decide +kernel : decode cX11_back 1 = .ok (.iload_n 1, 1)) rfl,
   so_vcallI rfl rfl (zrun_V (by decide +kernel : decode cX11_back 2 = .ok (.invokevirtual 314, 3)) rfl (zCal_mk zcc_139 (by decide +kernel)) (zvc_11) ⟨zt_923, zt_925, zs_27⟩) ⟨zcc_139.1, rfl⟩,
   so_istore_n rfl rfl (by decide +kernel : decode cX11_back 5 = .ok (.istore_n 2, 1)) rfl,
   so_iload_n rfl rfl (by decide +kernel : decode cX11_back 6 = .ok (.iload_n 2, 1)) rfl,
   so_ifeq rfl rfl rfl (by decide +kernel : decode cX11_back 7 = .ok (.ifCond .eq 5, 3)) (by decide),
   so_iload_n rfl rfl (by decide +kernel : decode cX11_back 10 = .ok (.iload_n 2, 1)) rfl,
   so_iret rfl (by decide +kernel : decode cX11_back 11 = .ok (.ireturn, 1)) rfl,
   so_aload_n rfl rfl (by decide +kernel : decode cX11_back 12 = .ok (.aload_n 0, 1)) rfl,
   so_getR (jn := 0) rfl rfl (by decide +kernel : decode cX11_back 13 = .ok (.getfield 12, 3)) rfl zcl_11 ⟨by decide, rfl, rfl, rfl⟩ zt_412,
   so_aload_n rfl rfl (by decide +kernel : decode cX11_back 16 = .ok (.aload_n 0, 1)) rfl,
   so_getR (jn := 8) rfl rfl (by decide +kernel : decode cX11_back 17 = .ok (.getfield 73, 3)) rfl zcl_11 ⟨by decide, rfl, rfl, rfl⟩ zt_420,
   so_iload_n rfl rfl (by decide +kernel : decode cX11_back 20 = .ok (.iload_n 1, 1)) rfl,
   so_aald4 rfl rfl (by decide +kernel : decode cX11_back 21 = .ok (.aaload, 1)),
   so_getR (jn := 3) rfl rfl (by decide +kernel : decode cX11_back 22 = .ok (.getfield 307, 3)) rfl zcl_8 ⟨by decide, rfl, rfl, rfl⟩ zt_378,
   so_vcallN rfl rfl (zrun_V (by decide +kernel : decode cX11_back 25 = .ok (.invokevirtual 308, 3)) rfl (zCal_mk zcc_2 (by decide +kernel)) (zvc_0) ⟨zt_909, zt_910, zt_911⟩) ⟨zcc_2.1, rfl⟩,
   so_aload_n rfl rfl (by decide +kernel : decode cX11_back 28 = .ok (.aload_n 0, 1)) rfl,
   so_getR (jn := 0) rfl rfl (by decide +kernel : decode cX11_back 29 = .ok (.getfield 12, 3)) rfl zcl_11 ⟨by decide, rfl, rfl, rfl⟩ zt_412,
   so_vcallI rfl rfl (zrun_V (by decide +kernel : decode cX11_back 32 = .ok (.invokevirtual 311, 3)) rfl (zCal_mk zcc_5 (by decide +kernel)) (zvc_0) ⟨zt_915, zt_916, zt_917⟩) ⟨zcc_5.1, rfl⟩,
   so_iret rfl (by decide +kernel : decode cX11_back 35 = .ok (.ireturn, 1)) rfl, trivial⟩
theorem zq125 (hst : l.stackTraces = false) (i : Nat) : zSO l D γ τ L xs 125 cX11_back zp125 i (zc125.getD i zo_stuck) := zSl_at (zq125_0) i
end
section
variable {l : Launch} {D : va_G} {γ : Nat → ClassId} {τ : Nat → Nat} {L : Nat} {xs : Nat → Int32}
theorem zq126_0 (hst : l.stackTraces = false) : zSl l D γ τ L xs 126 cX11_toss zp126 0 [zo_ld 2 0, zo_ld 0 1, zo_vcallI 139 2 2 17, zo_st 0 2, zo_ld 0 2, zo_ifeq 8, zo_ld 0 2, zo_iret, zo_ld 2 0, zo_getR 11 8, zo_ld 0 1, zo_aald 4, zo_getR 8 3, zo_tcall 7 1 1 6 9 0 16 3, zo_goto 23, zo_stuck, zo_ld 2 0, zo_getR 11 8, zo_ld 0 1, zo_aald 4, zo_getR 8 3, zo_vcallI 6 1 3 6, zo_iret, zo_ld 2 0, zo_push 0 (-15), zo_vcallI 140 2 2 17, zo_iret] :=
  ⟨so_aload_n rfl rfl (by decide +kernel : decode cX11_toss 0 = .ok (.aload_n 0, 1)) rfl,
   so_iload_n rfl rfl (by decide +kernel : decode cX11_toss 1 = .ok (.iload_n 1, 1)) rfl,
   so_vcallI rfl rfl (zrun_V (by decide +kernel : decode cX11_toss 2 = .ok (.invokevirtual 314, 3)) rfl (zCal_mk zcc_139 (by decide +kernel)) (zvc_11) ⟨zt_923, zt_925, zs_27⟩) ⟨zcc_139.1, rfl⟩,
   so_istore_n rfl rfl (by decide +kernel : decode cX11_toss 5 = .ok (.istore_n 2, 1)) rfl,
   so_iload_n rfl rfl (by decide +kernel : decode cX11_toss 6 = .ok (.iload_n 2, 1)) rfl,
   so_ifeq rfl rfl rfl (by decide +kernel : decode cX11_toss 7 = .ok (.ifCond .eq 5, 3)) (by decide),
   so_iload_n rfl rfl (by decide +kernel : decode cX11_toss 10 = .ok (.iload_n 2, 1)) rfl,
   so_iret rfl (by decide +kernel : decode cX11_toss 11 = .ok (.ireturn, 1)) rfl,
   so_aload_n rfl rfl (by decide +kernel : decode cX11_toss 12 = .ok (.aload_n 0, 1)) rfl,
   so_getR (jn := 8) rfl rfl (by decide +kernel : decode cX11_toss 13 = .ok (.getfield 73, 3)) rfl zcl_11 ⟨by decide, rfl, rfl, rfl⟩ zt_420,
   so_iload_n rfl rfl (by decide +kernel : decode cX11_toss 16 = .ok (.iload_n 1, 1)) rfl,
   so_aald4 rfl rfl (by decide +kernel : decode cX11_toss 17 = .ok (.aaload, 1)),
   so_getR (jn := 3) rfl rfl (by decide +kernel : decode cX11_toss 18 = .ok (.getfield 307, 3)) rfl zcl_8 ⟨by decide, rfl, rfl, rfl⟩ zt_378,
   so_tcall (hp1 := 0) (hb1 := 0) hst (by decide +kernel) rfl rfl (by decide +kernel : decode cX11_toss 21 = .ok (.invokevirtual 317, 3)) rfl (zCal_mk zcc_7 (by decide +kernel)) rfl (zvc_0) ⟨zt_932, zt_933, zt_934⟩ (Or.inr (Or.inr rfl)) rfl rfl (Or.inr rfl) (⟨zcat_0 (x := 2) rfl rfl (by decide +kernel) ⟨zt_931, zn_939⟩, zhst_n (by decide +kernel : decode cX11_toss 27 = .ok (.astore_n 3, 1)) rfl⟩),
   so_goto rfl rfl (by decide +kernel : decode cX11_toss 24 = .ok (.goto 17, 3)) (by decide),
   so_stuck,
   so_aload_n rfl rfl (by decide +kernel : decode cX11_toss 28 = .ok (.aload_n 0, 1)) rfl,
   so_getR (jn := 8) rfl rfl (by decide +kernel : decode cX11_toss 29 = .ok (.getfield 73, 3)) rfl zcl_11 ⟨by decide, rfl, rfl, rfl⟩ zt_420,
   so_iload_n rfl rfl (by decide +kernel : decode cX11_toss 32 = .ok (.iload_n 1, 1)) rfl,
   so_aald4 rfl rfl (by decide +kernel : decode cX11_toss 33 = .ok (.aaload, 1)),
   so_getR (jn := 3) rfl rfl (by decide +kernel : decode cX11_toss 34 = .ok (.getfield 307, 3)) rfl zcl_8 ⟨by decide, rfl, rfl, rfl⟩ zt_378,
   so_vcallI rfl rfl (zrun_V (by decide +kernel : decode cX11_toss 37 = .ok (.invokevirtual 177, 3)) rfl (zCal_mk zcc_6 (by decide +kernel)) (zvc_0) ⟨zt_552, zt_553, zt_554⟩) ⟨zcc_6.1, rfl⟩,
   so_iret rfl (by decide +kernel : decode cX11_toss 40 = .ok (.ireturn, 1)) rfl,
   so_aload_n rfl rfl (by decide +kernel : decode cX11_toss 41 = .ok (.aload_n 0, 1)) rfl,
   so_bipush rfl rfl (by decide +kernel : decode cX11_toss 42 = .ok (.bipush (-15), 2)) (by decide),
   so_vcallI rfl rfl (zrun_V (by decide +kernel : decode cX11_toss 44 = .ok (.invokevirtual 149, 3)) rfl (zCal_mk zcc_140 (by decide +kernel)) (zvc_11) ⟨zt_517, zt_519, zs_1⟩) ⟨zcc_140.1, rfl⟩,
   so_iret rfl (by decide +kernel : decode cX11_toss 47 = .ok (.ireturn, 1)) rfl, trivial⟩
theorem zq126 (hst : l.stackTraces = false) (i : Nat) : zSO l D γ τ L xs 126 cX11_toss zp126 i (zc126.getD i zo_stuck) := zSl_at (zq126_0 hst) i
end
section
variable {l : Launch} {D : va_G} {γ : Nat → ClassId} {τ : Nat → Nat} {L : Nat} {xs : Nat → Int32}
theorem zq127_0 : zSl l D γ τ L xs 127 cX11_clear zp127 0 [zo_ld 0 1, zo_callI 136 1 1, zo_ifne 5, zo_push 0 (-1), zo_iret, zo_ld 2 0, zo_getR 11 8, zo_ld 0 1, zo_aald 4, zo_getI 8 0, zo_st 0 2, zo_ld 2 0, zo_getR 11 8, zo_ld 0 1, zo_aald 4, zo_push 0 0, zo_putI 8 0, zo_ld 0 2, zo_iret] :=
  ⟨so_iload_n rfl rfl (by decide +kernel : decode cX11_clear 0 = .ok (.iload_n 1, 1)) rfl,
   so_callI rfl rfl (zrun_S (by decide +kernel : decode cX11_clear 1 = .ok (.invokestatic 143, 3)) rfl (zCal_mk zcc_136 (by decide +kernel)) ⟨zt_514, zt_515⟩) ⟨zcc_136.1, rfl⟩,
   so_ifne rfl rfl rfl (by decide +kernel : decode cX11_clear 4 = .ok (.ifCond .ne 5, 3)) (by decide),
   so_iconst rfl rfl (by decide +kernel : decode cX11_clear 7 = .ok (.iconst (-1), 1)) (by decide),
   so_iret rfl (by decide +kernel : decode cX11_clear 8 = .ok (.ireturn, 1)) rfl,
   so_aload_n rfl rfl (by decide +kernel : decode cX11_clear 9 = .ok (.aload_n 0, 1)) rfl,
   so_getR (jn := 8) rfl rfl (by decide +kernel : decode cX11_clear 10 = .ok (.getfield 73, 3)) rfl zcl_11 ⟨by decide, rfl, rfl, rfl⟩ zt_420,
   so_iload_n rfl rfl (by decide +kernel : decode cX11_clear 13 = .ok (.iload_n 1, 1)) rfl,
   so_aald4 rfl rfl (by decide +kernel : decode cX11_clear 14 = .ok (.aaload, 1)),
   so_getI (jn := 0) rfl rfl (by decide +kernel : decode cX11_clear 15 = .ok (.getfield 146, 3)) rfl zcl_8 ⟨by decide, rfl, rfl, rfl⟩ zt_372,
   so_istore_n rfl rfl (by decide +kernel : decode cX11_clear 18 = .ok (.istore_n 2, 1)) rfl,
   so_aload_n rfl rfl (by decide +kernel : decode cX11_clear 19 = .ok (.aload_n 0, 1)) rfl,
   so_getR (jn := 8) rfl rfl (by decide +kernel : decode cX11_clear 20 = .ok (.getfield 73, 3)) rfl zcl_11 ⟨by decide, rfl, rfl, rfl⟩ zt_420,
   so_iload_n rfl rfl (by decide +kernel : decode cX11_clear 23 = .ok (.iload_n 1, 1)) rfl,
   so_aald4 rfl rfl (by decide +kernel : decode cX11_clear 24 = .ok (.aaload, 1)),
   so_iconst rfl rfl (by decide +kernel : decode cX11_clear 25 = .ok (.iconst 0, 1)) (by decide),
   so_putI (jn := 0) rfl rfl (by decide +kernel : decode cX11_clear 26 = .ok (.putfield 146, 3)) rfl zcl_8 ⟨by decide, rfl, rfl, rfl, rfl⟩ zt_372,
   so_iload_n rfl rfl (by decide +kernel : decode cX11_clear 29 = .ok (.iload_n 2, 1)) rfl,
   so_iret rfl (by decide +kernel : decode cX11_clear 30 = .ok (.ireturn, 1)) rfl, trivial⟩
theorem zq127 (hst : l.stackTraces = false) (i : Nat) : zSO l D γ τ L xs 127 cX11_clear zp127 i (zc127.getD i zo_stuck) := zSl_at (zq127_0) i
end
section
variable {l : Launch} {D : va_G} {γ : Nat → ClassId} {τ : Nat → Nat} {L : Nat} {xs : Nat → Int32}
theorem zq128_0 : zSl l D γ τ L xs 128 cX11_put zp128 0 [zo_ld 0 1, zo_callI 136 1 1, zo_ifne 5, zo_push 0 (-1), zo_iret, zo_ld 2 0, zo_getR 11 8, zo_ld 0 1, zo_aald 4, zo_st 2 5, zo_ld 2 5, zo_getI 8 0, zo_ifne 17, zo_ld 2 0, zo_push 0 (-11), zo_vcallI 140 2 2 17, zo_iret, zo_ld 2 5, zo_vcallI 75 1 1 14, zo_ifne 24, zo_ld 2 0, zo_push 0 (-12), zo_vcallI 140 2 2 17, zo_iret, zo_ld 0 2, zo_push 0 0, zo_ld 2 5, zo_getI 8 1, zo_push 0 1, zo_isub, zo_callI 133 3 3, zo_ifne 36, zo_ld 2 0, zo_push 0 (-13), zo_vcallI 140 2 2 17, zo_iret, zo_ld 2 5, zo_getR 8 2, zo_ld 0 2, zo_ld 1 3] :=
  ⟨so_iload_n rfl rfl (by decide +kernel : decode cX11_put 0 = .ok (.iload_n 1, 1)) rfl,
   so_callI rfl rfl (zrun_S (by decide +kernel : decode cX11_put 1 = .ok (.invokestatic 143, 3)) rfl (zCal_mk zcc_136 (by decide +kernel)) ⟨zt_514, zt_515⟩) ⟨zcc_136.1, rfl⟩,
   so_ifne rfl rfl rfl (by decide +kernel : decode cX11_put 4 = .ok (.ifCond .ne 5, 3)) (by decide),
   so_iconst rfl rfl (by decide +kernel : decode cX11_put 7 = .ok (.iconst (-1), 1)) (by decide),
   so_iret rfl (by decide +kernel : decode cX11_put 8 = .ok (.ireturn, 1)) rfl,
   so_aload_n rfl rfl (by decide +kernel : decode cX11_put 9 = .ok (.aload_n 0, 1)) rfl,
   so_getR (jn := 8) rfl rfl (by decide +kernel : decode cX11_put 10 = .ok (.getfield 73, 3)) rfl zcl_11 ⟨by decide, rfl, rfl, rfl⟩ zt_420,
   so_iload_n rfl rfl (by decide +kernel : decode cX11_put 13 = .ok (.iload_n 1, 1)) rfl,
   so_aald4 rfl rfl (by decide +kernel : decode cX11_put 14 = .ok (.aaload, 1)),
   so_astore rfl rfl (by decide +kernel : decode cX11_put 15 = .ok (.astore 5, 2)),
   so_aload rfl rfl (by decide +kernel : decode cX11_put 17 = .ok (.aload 5, 2)),
   so_getI (jn := 0) rfl rfl (by decide +kernel : decode cX11_put 19 = .ok (.getfield 146, 3)) rfl zcl_8 ⟨by decide, rfl, rfl, rfl⟩ zt_372,
   so_ifne rfl rfl rfl (by decide +kernel : decode cX11_put 22 = .ok (.ifCond .ne 10, 3)) (by decide),
   so_aload_n rfl rfl (by decide +kernel : decode cX11_put 25 = .ok (.aload_n 0, 1)) rfl,
   so_bipush rfl rfl (by decide +kernel : decode cX11_put 26 = .ok (.bipush (-11), 2)) (by decide),
   so_vcallI rfl rfl (zrun_V (by decide +kernel : decode cX11_put 28 = .ok (.invokevirtual 149, 3)) rfl (zCal_mk zcc_140 (by decide +kernel)) (zvc_11) ⟨zt_517, zt_519, zs_1⟩) ⟨zcc_140.1, rfl⟩,
   so_iret rfl (by decide +kernel : decode cX11_put 31 = .ok (.ireturn, 1)) rfl,
   so_aload rfl rfl (by decide +kernel : decode cX11_put 32 = .ok (.aload 5, 2)),
   so_vcallI rfl rfl (zrun_V (by decide +kernel : decode cX11_put 34 = .ok (.invokevirtual 320, 3)) rfl (zCal_mk zcc_75 (by decide +kernel)) (zvc_8) ⟨zt_1012, zt_1013, zt_1014⟩) ⟨zcc_75.1, rfl⟩,
   so_ifne rfl rfl rfl (by decide +kernel : decode cX11_put 37 = .ok (.ifCond .ne 10, 3)) (by decide),
   so_aload_n rfl rfl (by decide +kernel : decode cX11_put 40 = .ok (.aload_n 0, 1)) rfl,
   so_bipush rfl rfl (by decide +kernel : decode cX11_put 41 = .ok (.bipush (-12), 2)) (by decide),
   so_vcallI rfl rfl (zrun_V (by decide +kernel : decode cX11_put 43 = .ok (.invokevirtual 149, 3)) rfl (zCal_mk zcc_140 (by decide +kernel)) (zvc_11) ⟨zt_517, zt_519, zs_1⟩) ⟨zcc_140.1, rfl⟩,
   so_iret rfl (by decide +kernel : decode cX11_put 46 = .ok (.ireturn, 1)) rfl,
   so_iload_n rfl rfl (by decide +kernel : decode cX11_put 47 = .ok (.iload_n 2, 1)) rfl,
   so_iconst rfl rfl (by decide +kernel : decode cX11_put 48 = .ok (.iconst 0, 1)) (by decide),
   so_aload rfl rfl (by decide +kernel : decode cX11_put 49 = .ok (.aload 5, 2)),
   so_getI (jn := 1) rfl rfl (by decide +kernel : decode cX11_put 51 = .ok (.getfield 152, 3)) rfl zcl_8 ⟨by decide, rfl, rfl, rfl⟩ zt_374,
   so_iconst rfl rfl (by decide +kernel : decode cX11_put 54 = .ok (.iconst 1, 1)) (by decide),
   so_isub rfl rfl (by decide +kernel : decode cX11_put 55 = .ok (.isub, 1)),
   so_callI rfl rfl (zrun_S (by decide +kernel : decode cX11_put 56 = .ok (.invokestatic 85, 3)) rfl (zCal_mk zcc_133 (by decide +kernel)) ⟨zt_454, zt_455⟩) ⟨zcc_133.1, rfl⟩,
   so_ifne rfl rfl rfl (by decide +kernel : decode cX11_put 59 = .ok (.ifCond .ne 10, 3)) (by decide),
   so_aload_n rfl rfl (by decide +kernel : decode cX11_put 62 = .ok (.aload_n 0, 1)) rfl,
   so_bipush rfl rfl (by decide +kernel : decode cX11_put 63 = .ok (.bipush (-13), 2)) (by decide),
   so_vcallI rfl rfl (zrun_V (by decide +kernel : decode cX11_put 65 = .ok (.invokevirtual 149, 3)) rfl (zCal_mk zcc_140 (by decide +kernel)) (zvc_11) ⟨zt_517, zt_519, zs_1⟩) ⟨zcc_140.1, rfl⟩,
   so_iret rfl (by decide +kernel : decode cX11_put 68 = .ok (.ireturn, 1)) rfl,
   so_aload rfl rfl (by decide +kernel : decode cX11_put 69 = .ok (.aload 5, 2)),
   so_getR (jn := 2) rfl rfl (by decide +kernel : decode cX11_put 71 = .ok (.getfield 155, 3)) rfl zcl_8 ⟨by decide, rfl, rfl, rfl⟩ zt_376,
   so_iload_n rfl rfl (by decide +kernel : decode cX11_put 74 = .ok (.iload_n 2, 1)) rfl,
   so_lload_n rfl rfl (by decide +kernel : decode cX11_put 75 = .ok (.lload_n 3, 1)) rfl, trivial⟩
theorem zq128_1 : zSl l D γ τ L xs 128 cX11_put zp128 40 [zo_ld 2 5, zo_getI 8 0, zo_callL 78 2 3, zo_last, zo_push 0 1, zo_iret] :=
  ⟨so_aload rfl rfl (by decide +kernel : decode cX11_put 76 = .ok (.aload 5, 2)),
   so_getI (jn := 0) rfl rfl (by decide +kernel : decode cX11_put 78 = .ok (.getfield 146, 3)) rfl zcl_8 ⟨by decide, rfl, rfl, rfl⟩ zt_372,
   so_callL rfl rfl (zrun_S (by decide +kernel : decode cX11_put 81 = .ok (.invokestatic 324, 3)) rfl (zCal_mk zcc_78 (by decide +kernel)) ⟨zt_1016, zt_1017⟩) ⟨zcc_78.1, rfl⟩,
   so_last rfl rfl (by decide +kernel : decode cX11_put 84 = .ok (.lastore, 1)),
   so_iconst rfl rfl (by decide +kernel : decode cX11_put 85 = .ok (.iconst 1, 1)) (by decide),
   so_iret rfl (by decide +kernel : decode cX11_put 86 = .ok (.ireturn, 1)) rfl, trivial⟩
theorem zq128 (hst : l.stackTraces = false) (i : Nat) : zSO l D γ τ L xs 128 cX11_put zp128 i (zc128.getD i zo_stuck) := zSl_at (zSl_app (zq128_0) (zq128_1) rfl) i
end
section
variable {l : Launch} {D : va_G} {γ : Nat → ClassId} {τ : Nat → Nat} {L : Nat} {xs : Nat → Int32}
theorem zq129_0 : zSl l D γ τ L xs 129 cX11_at zp129 0 [zo_ld 0 1, zo_callI 136 1 1, zo_ifne 8, zo_throw 1 3, zo_stuck, zo_stuck, zo_stuck, zo_stuck, zo_ld 2 0, zo_getR 11 8, zo_ld 0 1, zo_aald 4, zo_st 2 3, zo_ld 2 3, zo_vcallI 75 1 1 14, zo_ifeq 24, zo_ld 0 2, zo_push 0 0, zo_ld 2 3, zo_getI 8 1, zo_push 0 1, zo_isub, zo_callI 133 3 3, zo_ifne 29, zo_throw 2 24, zo_stuck, zo_stuck, zo_stuck, zo_stuck, zo_ld 2 3, zo_getR 8 2, zo_ld 0 2, zo_lald, zo_lret] :=
  ⟨so_iload_n rfl rfl (by decide +kernel : decode cX11_at 0 = .ok (.iload_n 1, 1)) rfl,
   so_callI rfl rfl (zrun_S (by decide +kernel : decode cX11_at 1 = .ok (.invokestatic 143, 3)) rfl (zCal_mk zcc_136 (by decide +kernel)) ⟨zt_514, zt_515⟩) ⟨zcc_136.1, rfl⟩,
   so_ifne rfl rfl rfl (by decide +kernel : decode cX11_at 4 = .ok (.ifCond .ne 14, 3)) (by decide),
   so_throw (Or.inl rfl) (by decide) (zthr_SW rfl rfl rfl (by decide +kernel) zthw_7 (by decide +kernel : decode cX11_at 7 = .ok (.new 184, 3)) (by decide +kernel : decode cX11_at 10 = .ok (.dup, 1)) (by decide +kernel : decode cX11_at 11 = .ok (.ldc_w 328, 3)) (by decide +kernel : decode cX11_at 14 = .ok (.invokespecial 188, 3)) (by decide +kernel : decode cX11_at 17 = .ok (.athrow, 1))),
   so_stuck,
   so_stuck,
   so_stuck,
   so_stuck,
   so_aload_n rfl rfl (by decide +kernel : decode cX11_at 18 = .ok (.aload_n 0, 1)) rfl,
   so_getR (jn := 8) rfl rfl (by decide +kernel : decode cX11_at 19 = .ok (.getfield 73, 3)) rfl zcl_11 ⟨by decide, rfl, rfl, rfl⟩ zt_420,
   so_iload_n rfl rfl (by decide +kernel : decode cX11_at 22 = .ok (.iload_n 1, 1)) rfl,
   so_aald4 rfl rfl (by decide +kernel : decode cX11_at 23 = .ok (.aaload, 1)),
   so_astore_n rfl rfl (by decide +kernel : decode cX11_at 24 = .ok (.astore_n 3, 1)) rfl,
   so_aload_n rfl rfl (by decide +kernel : decode cX11_at 25 = .ok (.aload_n 3, 1)) rfl,
   so_vcallI rfl rfl (zrun_V (by decide +kernel : decode cX11_at 26 = .ok (.invokevirtual 320, 3)) rfl (zCal_mk zcc_75 (by decide +kernel)) (zvc_8) ⟨zt_1012, zt_1013, zt_1014⟩) ⟨zcc_75.1, rfl⟩,
   so_ifeq rfl rfl rfl (by decide +kernel : decode cX11_at 29 = .ok (.ifCond .eq 17, 3)) (by decide),
   so_iload_n rfl rfl (by decide +kernel : decode cX11_at 32 = .ok (.iload_n 2, 1)) rfl,
   so_iconst rfl rfl (by decide +kernel : decode cX11_at 33 = .ok (.iconst 0, 1)) (by decide),
   so_aload_n rfl rfl (by decide +kernel : decode cX11_at 34 = .ok (.aload_n 3, 1)) rfl,
   so_getI (jn := 1) rfl rfl (by decide +kernel : decode cX11_at 35 = .ok (.getfield 152, 3)) rfl zcl_8 ⟨by decide, rfl, rfl, rfl⟩ zt_374,
   so_iconst rfl rfl (by decide +kernel : decode cX11_at 38 = .ok (.iconst 1, 1)) (by decide),
   so_isub rfl rfl (by decide +kernel : decode cX11_at 39 = .ok (.isub, 1)),
   so_callI rfl rfl (zrun_S (by decide +kernel : decode cX11_at 40 = .ok (.invokestatic 85, 3)) rfl (zCal_mk zcc_133 (by decide +kernel)) ⟨zt_454, zt_455⟩) ⟨zcc_133.1, rfl⟩,
   so_ifne rfl rfl rfl (by decide +kernel : decode cX11_at 43 = .ok (.ifCond .ne 14, 3)) (by decide),
   so_throw (Or.inr rfl) (by decide) (zthr_SW rfl rfl rfl (by decide +kernel) zthw_8 (by decide +kernel : decode cX11_at 46 = .ok (.new 195, 3)) (by decide +kernel : decode cX11_at 49 = .ok (.dup, 1)) (by decide +kernel : decode cX11_at 50 = .ok (.ldc_w 330, 3)) (by decide +kernel : decode cX11_at 53 = .ok (.invokespecial 199, 3)) (by decide +kernel : decode cX11_at 56 = .ok (.athrow, 1))),
   so_stuck,
   so_stuck,
   so_stuck,
   so_stuck,
   so_aload_n rfl rfl (by decide +kernel : decode cX11_at 57 = .ok (.aload_n 3, 1)) rfl,
   so_getR (jn := 2) rfl rfl (by decide +kernel : decode cX11_at 58 = .ok (.getfield 155, 3)) rfl zcl_8 ⟨by decide, rfl, rfl, rfl⟩ zt_376,
   so_iload_n rfl rfl (by decide +kernel : decode cX11_at 61 = .ok (.iload_n 2, 1)) rfl,
   so_lald rfl rfl (by decide +kernel : decode cX11_at 62 = .ok (.laload, 1)),
   so_lret rfl (by decide +kernel : decode cX11_at 63 = .ok (.lreturn, 1)) rfl, trivial⟩
theorem zq129 (hst : l.stackTraces = false) (i : Nat) : zSO l D γ τ L xs 129 cX11_at zp129 i (zc129.getD i zo_stuck) := zSl_at (zq129_0) i
end
section
variable {l : Launch} {D : va_G} {γ : Nat → ClassId} {τ : Nat → Nat} {L : Nat} {xs : Nat → Int32}
theorem zq130_0 : zSl l D γ τ L xs 130 cX11_copy zp130 0 [zo_ld 0 1, zo_callI 136 1 1, zo_ifeq 6, zo_ld 0 3, zo_callI 136 1 1, zo_ifne 8, zo_push 0 (-1), zo_iret, zo_ld 2 0, zo_getR 11 8, zo_ld 0 1, zo_aald 4, zo_st 2 6, zo_ld 2 0, zo_getR 11 8, zo_ld 0 3, zo_aald 4, zo_st 2 7, zo_ld 2 6, zo_getI 8 0, zo_ifeq 24, zo_ld 2 7, zo_getI 8 0, zo_ifne 28, zo_ld 2 0, zo_push 0 (-11), zo_vcallI 140 2 2 17, zo_iret, zo_ld 2 6, zo_vcallI 75 1 1 14, zo_ifeq 36, zo_ld 2 6, zo_getI 8 0, zo_ld 2 7, zo_getI 8 0, zo_iceq 40, zo_ld 2 0, zo_push 0 (-12), zo_vcallI 140 2 2 17, zo_iret] :=
  ⟨so_iload_n rfl rfl (by decide +kernel : decode cX11_copy 0 = .ok (.iload_n 1, 1)) rfl,
   so_callI rfl rfl (zrun_S (by decide +kernel : decode cX11_copy 1 = .ok (.invokestatic 143, 3)) rfl (zCal_mk zcc_136 (by decide +kernel)) ⟨zt_514, zt_515⟩) ⟨zcc_136.1, rfl⟩,
   so_ifeq rfl rfl rfl (by decide +kernel : decode cX11_copy 4 = .ok (.ifCond .eq 10, 3)) (by decide),
   so_iload_n rfl rfl (by decide +kernel : decode cX11_copy 7 = .ok (.iload_n 3, 1)) rfl,
   so_callI rfl rfl (zrun_S (by decide +kernel : decode cX11_copy 8 = .ok (.invokestatic 143, 3)) rfl (zCal_mk zcc_136 (by decide +kernel)) ⟨zt_514, zt_515⟩) ⟨zcc_136.1, rfl⟩,
   so_ifne rfl rfl rfl (by decide +kernel : decode cX11_copy 11 = .ok (.ifCond .ne 5, 3)) (by decide),
   so_iconst rfl rfl (by decide +kernel : decode cX11_copy 14 = .ok (.iconst (-1), 1)) (by decide),
   so_iret rfl (by decide +kernel : decode cX11_copy 15 = .ok (.ireturn, 1)) rfl,
   so_aload_n rfl rfl (by decide +kernel : decode cX11_copy 16 = .ok (.aload_n 0, 1)) rfl,
   so_getR (jn := 8) rfl rfl (by decide +kernel : decode cX11_copy 17 = .ok (.getfield 73, 3)) rfl zcl_11 ⟨by decide, rfl, rfl, rfl⟩ zt_420,
   so_iload_n rfl rfl (by decide +kernel : decode cX11_copy 20 = .ok (.iload_n 1, 1)) rfl,
   so_aald4 rfl rfl (by decide +kernel : decode cX11_copy 21 = .ok (.aaload, 1)),
   so_astore rfl rfl (by decide +kernel : decode cX11_copy 22 = .ok (.astore 6, 2)),
   so_aload_n rfl rfl (by decide +kernel : decode cX11_copy 24 = .ok (.aload_n 0, 1)) rfl,
   so_getR (jn := 8) rfl rfl (by decide +kernel : decode cX11_copy 25 = .ok (.getfield 73, 3)) rfl zcl_11 ⟨by decide, rfl, rfl, rfl⟩ zt_420,
   so_iload_n rfl rfl (by decide +kernel : decode cX11_copy 28 = .ok (.iload_n 3, 1)) rfl,
   so_aald4 rfl rfl (by decide +kernel : decode cX11_copy 29 = .ok (.aaload, 1)),
   so_astore rfl rfl (by decide +kernel : decode cX11_copy 30 = .ok (.astore 7, 2)),
   so_aload rfl rfl (by decide +kernel : decode cX11_copy 32 = .ok (.aload 6, 2)),
   so_getI (jn := 0) rfl rfl (by decide +kernel : decode cX11_copy 34 = .ok (.getfield 146, 3)) rfl zcl_8 ⟨by decide, rfl, rfl, rfl⟩ zt_372,
   so_ifeq rfl rfl rfl (by decide +kernel : decode cX11_copy 37 = .ok (.ifCond .eq 11, 3)) (by decide),
   so_aload rfl rfl (by decide +kernel : decode cX11_copy 40 = .ok (.aload 7, 2)),
   so_getI (jn := 0) rfl rfl (by decide +kernel : decode cX11_copy 42 = .ok (.getfield 146, 3)) rfl zcl_8 ⟨by decide, rfl, rfl, rfl⟩ zt_372,
   so_ifne rfl rfl rfl (by decide +kernel : decode cX11_copy 45 = .ok (.ifCond .ne 10, 3)) (by decide),
   so_aload_n rfl rfl (by decide +kernel : decode cX11_copy 48 = .ok (.aload_n 0, 1)) rfl,
   so_bipush rfl rfl (by decide +kernel : decode cX11_copy 49 = .ok (.bipush (-11), 2)) (by decide),
   so_vcallI rfl rfl (zrun_V (by decide +kernel : decode cX11_copy 51 = .ok (.invokevirtual 149, 3)) rfl (zCal_mk zcc_140 (by decide +kernel)) (zvc_11) ⟨zt_517, zt_519, zs_1⟩) ⟨zcc_140.1, rfl⟩,
   so_iret rfl (by decide +kernel : decode cX11_copy 54 = .ok (.ireturn, 1)) rfl,
   so_aload rfl rfl (by decide +kernel : decode cX11_copy 55 = .ok (.aload 6, 2)),
   so_vcallI rfl rfl (zrun_V (by decide +kernel : decode cX11_copy 57 = .ok (.invokevirtual 320, 3)) rfl (zCal_mk zcc_75 (by decide +kernel)) (zvc_8) ⟨zt_1012, zt_1013, zt_1014⟩) ⟨zcc_75.1, rfl⟩,
   so_ifeq rfl rfl rfl (by decide +kernel : decode cX11_copy 60 = .ok (.ifCond .eq 16, 3)) (by decide),
   so_aload rfl rfl (by decide +kernel : decode cX11_copy 63 = .ok (.aload 6, 2)),
   so_getI (jn := 0) rfl rfl (by decide +kernel : decode cX11_copy 65 = .ok (.getfield 146, 3)) rfl zcl_8 ⟨by decide, rfl, rfl, rfl⟩ zt_372,
   so_aload rfl rfl (by decide +kernel : decode cX11_copy 68 = .ok (.aload 7, 2)),
   so_getI (jn := 0) rfl rfl (by decide +kernel : decode cX11_copy 70 = .ok (.getfield 146, 3)) rfl zcl_8 ⟨by decide, rfl, rfl, rfl⟩ zt_372,
   so_iceq rfl rfl rfl (by decide +kernel : decode cX11_copy 73 = .ok (.if_icmp .eq 10, 3)) (by decide),
   so_aload_n rfl rfl (by decide +kernel : decode cX11_copy 76 = .ok (.aload_n 0, 1)) rfl,
   so_bipush rfl rfl (by decide +kernel : decode cX11_copy 77 = .ok (.bipush (-12), 2)) (by decide),
   so_vcallI rfl rfl (zrun_V (by decide +kernel : decode cX11_copy 79 = .ok (.invokevirtual 149, 3)) rfl (zCal_mk zcc_140 (by decide +kernel)) (zvc_11) ⟨zt_517, zt_519, zs_1⟩) ⟨zcc_140.1, rfl⟩,
   so_iret rfl (by decide +kernel : decode cX11_copy 82 = .ok (.ireturn, 1)) rfl, trivial⟩
theorem zq130_1 : zSl l D γ τ L xs 130 cX11_copy zp130 40 [zo_ld 2 6, zo_ld 0 2, zo_ld 0 5, zo_vcallI 77 3 3 14, zo_ifeq 50, zo_ld 2 7, zo_ld 0 4, zo_ld 0 5, zo_vcallI 77 3 3 14, zo_ifne 54, zo_ld 2 0, zo_push 0 (-13), zo_vcallI 140 2 2 17, zo_iret, zo_ld 2 6, zo_getR 8 2, zo_ld 0 2, zo_ld 2 7, zo_getR 8 2, zo_ld 0 4, zo_ld 0 5, zo_acpy 1, zo_ld 0 5, zo_iret] :=
  ⟨so_aload rfl rfl (by decide +kernel : decode cX11_copy 83 = .ok (.aload 6, 2)),
   so_iload_n rfl rfl (by decide +kernel : decode cX11_copy 85 = .ok (.iload_n 2, 1)) rfl,
   so_iload rfl rfl (by decide +kernel : decode cX11_copy 86 = .ok (.iload 5, 2)),
   so_vcallI rfl rfl (zrun_V (by decide +kernel : decode cX11_copy 88 = .ok (.invokevirtual 332, 3)) rfl (zCal_mk zcc_77 (by decide +kernel)) (zvc_8) ⟨zt_1023, zt_1024, zt_1025⟩) ⟨zcc_77.1, rfl⟩,
   so_ifeq rfl rfl rfl (by decide +kernel : decode cX11_copy 91 = .ok (.ifCond .eq 15, 3)) (by decide),
   so_aload rfl rfl (by decide +kernel : decode cX11_copy 94 = .ok (.aload 7, 2)),
   so_iload rfl rfl (by decide +kernel : decode cX11_copy 96 = .ok (.iload 4, 2)),
   so_iload rfl rfl (by decide +kernel : decode cX11_copy 98 = .ok (.iload 5, 2)),
   so_vcallI rfl rfl (zrun_V (by decide +kernel : decode cX11_copy 100 = .ok (.invokevirtual 332, 3)) rfl (zCal_mk zcc_77 (by decide +kernel)) (zvc_8) ⟨zt_1023, zt_1024, zt_1025⟩) ⟨zcc_77.1, rfl⟩,
   so_ifne rfl rfl rfl (by decide +kernel : decode cX11_copy 103 = .ok (.ifCond .ne 10, 3)) (by decide),
   so_aload_n rfl rfl (by decide +kernel : decode cX11_copy 106 = .ok (.aload_n 0, 1)) rfl,
   so_bipush rfl rfl (by decide +kernel : decode cX11_copy 107 = .ok (.bipush (-13), 2)) (by decide),
   so_vcallI rfl rfl (zrun_V (by decide +kernel : decode cX11_copy 109 = .ok (.invokevirtual 149, 3)) rfl (zCal_mk zcc_140 (by decide +kernel)) (zvc_11) ⟨zt_517, zt_519, zs_1⟩) ⟨zcc_140.1, rfl⟩,
   so_iret rfl (by decide +kernel : decode cX11_copy 112 = .ok (.ireturn, 1)) rfl,
   so_aload rfl rfl (by decide +kernel : decode cX11_copy 113 = .ok (.aload 6, 2)),
   so_getR (jn := 2) rfl rfl (by decide +kernel : decode cX11_copy 115 = .ok (.getfield 155, 3)) rfl zcl_8 ⟨by decide, rfl, rfl, rfl⟩ zt_376,
   so_iload_n rfl rfl (by decide +kernel : decode cX11_copy 118 = .ok (.iload_n 2, 1)) rfl,
   so_aload rfl rfl (by decide +kernel : decode cX11_copy 119 = .ok (.aload 7, 2)),
   so_getR (jn := 2) rfl rfl (by decide +kernel : decode cX11_copy 121 = .ok (.getfield 155, 3)) rfl zcl_8 ⟨by decide, rfl, rfl, rfl⟩ zt_376,
   so_iload rfl rfl (by decide +kernel : decode cX11_copy 124 = .ok (.iload 4, 2)),
   so_iload rfl rfl (by decide +kernel : decode cX11_copy 126 = .ok (.iload 5, 2)),
   so_acpy1 rfl rfl (by decide +kernel : decode cX11_copy 128 = .ok (.invokestatic 335, 3)) rfl ⟨zt_1027, zt_570, zt_569, zt_16⟩ (by decide +kernel),
   so_iload rfl rfl (by decide +kernel : decode cX11_copy 131 = .ok (.iload 5, 2)),
   so_iret rfl (by decide +kernel : decode cX11_copy 133 = .ok (.ireturn, 1)) rfl, trivial⟩
theorem zq130 (hst : l.stackTraces = false) (i : Nat) : zSO l D γ τ L xs 130 cX11_copy zp130 i (zc130.getD i zo_stuck) := zSl_at (zSl_app (zq130_0) (zq130_1) rfl) i
end
section
variable {l : Launch} {D : va_G} {γ : Nat → ClassId} {τ : Nat → Nat} {L : Nat} {xs : Nat → Int32}
theorem zq131_0 : zSl l D γ τ L xs 131 cX11_count zp131 0 [zo_ld 0 1, zo_lsw [(0, 2), (1, 6), (2, 10), (3, 14), (4, 18), (5, 22), (6, 26)] 29, zo_ld 2 0, zo_getR 11 0, zo_vcallI 5 1 3 6, zo_iret, zo_ld 2 0, zo_getR 11 0, zo_getI 0 2, zo_iret, zo_ld 2 0, zo_getR 11 2, zo_getI 3 1, zo_iret, zo_ld 2 0, zo_getR 11 6, zo_getI 10 1, zo_iret, zo_ld 2 0, zo_getR 11 7, zo_getI 2 2, zo_iret, zo_ld 2 0, zo_getR 11 0, zo_vcallI 6 1 3 6, zo_iret, zo_ld 2 0, zo_getI 11 9, zo_iret, zo_push 0 (-1), zo_iret] :=
  ⟨so_iload_n rfl rfl (by decide +kernel : decode cX11_count 0 = .ok (.iload_n 1, 1)) rfl,
   so_tsw rfl (by decide +kernel : decode cX11_count 1 = .ok (.tableswitch 96 0 6 #[43, 51, 59, 67, 75, 83, 91], 43)) ⟨rfl, by decide⟩ (List.forall_mem_cons.mpr ⟨⟨by decide, by decide, 44, 43, rfl, rfl, by decide⟩, List.forall_mem_cons.mpr ⟨⟨by decide, by decide, 52, 51, rfl, rfl, by decide⟩, List.forall_mem_cons.mpr ⟨⟨by decide, by decide, 60, 59, rfl, rfl, by decide⟩, List.forall_mem_cons.mpr ⟨⟨by decide, by decide, 68, 67, rfl, rfl, by decide⟩, List.forall_mem_cons.mpr ⟨⟨by decide, by decide, 76, 75, rfl, rfl, by decide⟩, List.forall_mem_cons.mpr ⟨⟨by decide, by decide, 84, 83, rfl, rfl, by decide⟩, List.forall_mem_cons.mpr ⟨⟨by decide, by decide, 92, 91, rfl, rfl, by decide⟩, fun _ h => absurd h List.not_mem_nil⟩⟩⟩⟩⟩⟩⟩) (zsw_all (by decide) (by decide)),
   so_aload_n rfl rfl (by decide +kernel : decode cX11_count 44 = .ok (.aload_n 0, 1)) rfl,
   so_getR (jn := 0) rfl rfl (by decide +kernel : decode cX11_count 45 = .ok (.getfield 12, 3)) rfl zcl_11 ⟨by decide, rfl, rfl, rfl⟩ zt_412,
   so_vcallI rfl rfl (zrun_V (by decide +kernel : decode cX11_count 48 = .ok (.invokevirtual 311, 3)) rfl (zCal_mk zcc_5 (by decide +kernel)) (zvc_0) ⟨zt_915, zt_916, zt_917⟩) ⟨zcc_5.1, rfl⟩,
   so_iret rfl (by decide +kernel : decode cX11_count 51 = .ok (.ireturn, 1)) rfl,
   so_aload_n rfl rfl (by decide +kernel : decode cX11_count 52 = .ok (.aload_n 0, 1)) rfl,
   so_getR (jn := 0) rfl rfl (by decide +kernel : decode cX11_count 53 = .ok (.getfield 12, 3)) rfl zcl_11 ⟨by decide, rfl, rfl, rfl⟩ zt_412,
   so_getI (jn := 2) rfl rfl (by decide +kernel : decode cX11_count 56 = .ok (.getfield 123, 3)) rfl zcl_0 ⟨by decide, rfl, rfl, rfl⟩ zt_76,
   so_iret rfl (by decide +kernel : decode cX11_count 59 = .ok (.ireturn, 1)) rfl,
   so_aload_n rfl rfl (by decide +kernel : decode cX11_count 60 = .ok (.aload_n 0, 1)) rfl,
   so_getR (jn := 2) rfl rfl (by decide +kernel : decode cX11_count 61 = .ok (.getfield 26, 3)) rfl zcl_11 ⟨by decide, rfl, rfl, rfl⟩ zt_414,
   so_getI (jn := 1) rfl rfl (by decide +kernel : decode cX11_count 64 = .ok (.getfield 341, 3)) rfl zcl_3 ⟨by decide, rfl, rfl, rfl⟩ zt_140,
   so_iret rfl (by decide +kernel : decode cX11_count 67 = .ok (.ireturn, 1)) rfl,
   so_aload_n rfl rfl (by decide +kernel : decode cX11_count 68 = .ok (.aload_n 0, 1)) rfl,
   so_getR (jn := 6) rfl rfl (by decide +kernel : decode cX11_count 69 = .ok (.getfield 58, 3)) rfl zcl_11 ⟨by decide, rfl, rfl, rfl⟩ zt_418,
   so_getI (jn := 1) rfl rfl (by decide +kernel : decode cX11_count 72 = .ok (.getfield 253, 3)) rfl zcl_10 ⟨by decide, rfl, rfl, rfl⟩ zt_284,
   so_iret rfl (by decide +kernel : decode cX11_count 75 = .ok (.ireturn, 1)) rfl,
   so_aload_n rfl rfl (by decide +kernel : decode cX11_count 76 = .ok (.aload_n 0, 1)) rfl,
   so_getR (jn := 7) rfl rfl (by decide +kernel : decode cX11_count 77 = .ok (.getfield 67, 3)) rfl zcl_11 ⟨by decide, rfl, rfl, rfl⟩ zt_419,
   so_getI (jn := 2) rfl rfl (by decide +kernel : decode cX11_count 80 = .ok (.getfield 269, 3)) rfl zcl_2 ⟨by decide, rfl, rfl, rfl⟩ zt_326,
   so_iret rfl (by decide +kernel : decode cX11_count 83 = .ok (.ireturn, 1)) rfl,
   so_aload_n rfl rfl (by decide +kernel : decode cX11_count 84 = .ok (.aload_n 0, 1)) rfl,
   so_getR (jn := 0) rfl rfl (by decide +kernel : decode cX11_count 85 = .ok (.getfield 12, 3)) rfl zcl_11 ⟨by decide, rfl, rfl, rfl⟩ zt_412,
   so_vcallI rfl rfl (zrun_V (by decide +kernel : decode cX11_count 88 = .ok (.invokevirtual 177, 3)) rfl (zCal_mk zcc_6 (by decide +kernel)) (zvc_0) ⟨zt_552, zt_553, zt_554⟩) ⟨zcc_6.1, rfl⟩,
   so_iret rfl (by decide +kernel : decode cX11_count 91 = .ok (.ireturn, 1)) rfl,
   so_aload_n rfl rfl (by decide +kernel : decode cX11_count 92 = .ok (.aload_n 0, 1)) rfl,
   so_getI (jn := 9) rfl rfl (by decide +kernel : decode cX11_count 93 = .ok (.getfield 344, 3)) rfl zcl_11 ⟨by decide, rfl, rfl, rfl⟩ zt_421,
   so_iret rfl (by decide +kernel : decode cX11_count 96 = .ok (.ireturn, 1)) rfl,
   so_iconst rfl rfl (by decide +kernel : decode cX11_count 97 = .ok (.iconst (-1), 1)) (by decide),
   so_iret rfl (by decide +kernel : decode cX11_count 98 = .ok (.ireturn, 1)) rfl, trivial⟩
theorem zq131 (hst : l.stackTraces = false) (i : Nat) : zSO l D γ τ L xs 131 cX11_count zp131 i (zc131.getD i zo_stuck) := zSl_at (zq131_0) i
end
section
variable {l : Launch} {D : va_G} {γ : Nat → ClassId} {τ : Nat → Nat} {L : Nat} {xs : Nat → Int32}
theorem zq132_0 : zSl l D γ τ L xs 132 cX11_reset zp132 0 [zo_ld 2 0, zo_getR 11 0, zo_vcallN 1 1 2 6, zo_ld 2 0, zo_getR 11 2, zo_vcallN 34 1 2 9, zo_ld 2 0, zo_getR 11 1, zo_push 0 0, zo_push 0 0, zo_push 0 0, zo_vcallN 51 4 4 11, zo_ld 2 0, zo_getR 11 3, zo_vcallN 80 1 1 15, zo_ld 2 0, zo_getR 11 6, zo_push 0 0, zo_putI 10 1, zo_ld 2 0, zo_getR 11 7, zo_push 0 0, zo_putI 2 2, zo_ld 2 0, zo_getR 11 5, zo_push 0 0, zo_putZ 7 0, zo_ld 2 0, zo_push 0 0, zo_putI 11 9, zo_ret] :=
  ⟨so_aload_n rfl rfl (by decide +kernel : decode cX11_reset 0 = .ok (.aload_n 0, 1)) rfl,
   so_getR (jn := 0) rfl rfl (by decide +kernel : decode cX11_reset 1 = .ok (.getfield 12, 3)) rfl zcl_11 ⟨by decide, rfl, rfl, rfl⟩ zt_412,
   so_vcallN rfl rfl (zrun_V (by decide +kernel : decode cX11_reset 4 = .ok (.invokevirtual 347, 3)) rfl (zCal_mk zcc_1 (by decide +kernel)) (zvc_0) ⟨zt_393, zt_394, zt_395⟩) ⟨zcc_1.1, rfl⟩,
   so_aload_n rfl rfl (by decide +kernel : decode cX11_reset 7 = .ok (.aload_n 0, 1)) rfl,
   so_getR (jn := 2) rfl rfl (by decide +kernel : decode cX11_reset 8 = .ok (.getfield 26, 3)) rfl zcl_11 ⟨by decide, rfl, rfl, rfl⟩ zt_414,
   so_vcallN rfl rfl (zrun_V (by decide +kernel : decode cX11_reset 11 = .ok (.invokevirtual 350, 3)) rfl (zCal_mk zcc_34 (by decide +kernel)) (zvc_3) ⟨zt_400, zt_401, zt_402⟩) ⟨zcc_34.1, rfl⟩,
   so_aload_n rfl rfl (by decide +kernel : decode cX11_reset 14 = .ok (.aload_n 0, 1)) rfl,
   so_getR (jn := 1) rfl rfl (by decide +kernel : decode cX11_reset 15 = .ok (.getfield 19, 3)) rfl zcl_11 ⟨by decide, rfl, rfl, rfl⟩ zt_413,
   so_iconst rfl rfl (by decide +kernel : decode cX11_reset 18 = .ok (.iconst 0, 1)) (by decide),
   so_iconst rfl rfl (by decide +kernel : decode cX11_reset 19 = .ok (.iconst 0, 1)) (by decide),
   so_iconst rfl rfl (by decide +kernel : decode cX11_reset 20 = .ok (.iconst 0, 1)) (by decide),
   so_vcallN rfl rfl (zrun_V (by decide +kernel : decode cX11_reset 21 = .ok (.invokevirtual 134, 3)) rfl (zCal_mk zcc_51 (by decide +kernel)) (zvc_5) ⟨zt_404, zt_405, zt_406⟩) ⟨zcc_51.1, rfl⟩,
   so_aload_n rfl rfl (by decide +kernel : decode cX11_reset 24 = .ok (.aload_n 0, 1)) rfl,
   so_getR (jn := 3) rfl rfl (by decide +kernel : decode cX11_reset 25 = .ok (.getfield 33, 3)) rfl zcl_11 ⟨by decide, rfl, rfl, rfl⟩ zt_415,
   so_vcallN rfl rfl (zrun_V (by decide +kernel : decode cX11_reset 28 = .ok (.invokevirtual 353, 3)) rfl (zCal_mk zcc_80 (by decide +kernel)) (zvc_9) ⟨zt_408, zt_409, zt_410⟩) ⟨zcc_80.1, rfl⟩,
   so_aload_n rfl rfl (by decide +kernel : decode cX11_reset 31 = .ok (.aload_n 0, 1)) rfl,
   so_getR (jn := 6) rfl rfl (by decide +kernel : decode cX11_reset 32 = .ok (.getfield 58, 3)) rfl zcl_11 ⟨by decide, rfl, rfl, rfl⟩ zt_418,
   so_iconst rfl rfl (by decide +kernel : decode cX11_reset 35 = .ok (.iconst 0, 1)) (by decide),
   so_putI (jn := 1) rfl rfl (by decide +kernel : decode cX11_reset 36 = .ok (.putfield 253, 3)) rfl zcl_10 ⟨by decide, rfl, rfl, rfl, rfl⟩ zt_284,
   so_aload_n rfl rfl (by decide +kernel : decode cX11_reset 39 = .ok (.aload_n 0, 1)) rfl,
   so_getR (jn := 7) rfl rfl (by decide +kernel : decode cX11_reset 40 = .ok (.getfield 67, 3)) rfl zcl_11 ⟨by decide, rfl, rfl, rfl⟩ zt_419,
   so_iconst rfl rfl (by decide +kernel : decode cX11_reset 43 = .ok (.iconst 0, 1)) (by decide),
   so_putI (jn := 2) rfl rfl (by decide +kernel : decode cX11_reset 44 = .ok (.putfield 269, 3)) rfl zcl_2 ⟨by decide, rfl, rfl, rfl, rfl⟩ zt_326,
   so_aload_n rfl rfl (by decide +kernel : decode cX11_reset 47 = .ok (.aload_n 0, 1)) rfl,
   so_getR (jn := 5) rfl rfl (by decide +kernel : decode cX11_reset 48 = .ok (.getfield 49, 3)) rfl zcl_11 ⟨by decide, rfl, rfl, rfl⟩ zt_417,
   so_iconst rfl rfl (by decide +kernel : decode cX11_reset 51 = .ok (.iconst 0, 1)) (by decide),
   so_putZ (jn := 0) rfl rfl (by decide +kernel : decode cX11_reset 52 = .ok (.putfield 191, 3)) rfl zcl_7 ⟨by decide, rfl, rfl, rfl, rfl⟩ zt_241,
   so_aload_n rfl rfl (by decide +kernel : decode cX11_reset 55 = .ok (.aload_n 0, 1)) rfl,
   so_iconst rfl rfl (by decide +kernel : decode cX11_reset 56 = .ok (.iconst 0, 1)) (by decide),
   so_putI (jn := 9) rfl rfl (by decide +kernel : decode cX11_reset 57 = .ok (.putfield 344, 3)) rfl zcl_11 ⟨by decide, rfl, rfl, rfl, rfl⟩ zt_421,
   so_ret rfl (by decide +kernel : decode cX11_reset 60 = .ok (.return_, 1)) rfl, trivial⟩
theorem zq132 (hst : l.stackTraces = false) (i : Nat) : zSO l D γ τ L xs 132 cX11_reset zp132 i (zc132.getD i zo_stuck) := zSl_at (zq132_0) i
end
section
variable {l : Launch} {D : va_G} {γ : Nat → ClassId} {τ : Nat → Nat} {L : Nat} {xs : Nat → Int32}
theorem zq133_0 : zSl l D γ τ L xs 133 cX11_isIn zp133 0 [zo_ld 0 0, zo_ld 0 1, zo_iclt 8, zo_ld 0 0, zo_ld 0 2, zo_icgt 8, zo_push 0 1, zo_goto 9, zo_push 0 0, zo_zret] :=
  ⟨so_iload_n rfl rfl (by decide +kernel : decode cX11_isIn 0 = .ok (.iload_n 0, 1)) rfl,
   so_iload_n rfl rfl (by decide +kernel : decode cX11_isIn 1 = .ok (.iload_n 1, 1)) rfl,
   so_iclt rfl rfl rfl (by decide +kernel : decode cX11_isIn 2 = .ok (.if_icmp .lt 12, 3)) (by decide),
   so_iload_n rfl rfl (by decide +kernel : decode cX11_isIn 5 = .ok (.iload_n 0, 1)) rfl,
   so_iload_n rfl rfl (by decide +kernel : decode cX11_isIn 6 = .ok (.iload_n 2, 1)) rfl,
   so_icgt rfl rfl rfl (by decide +kernel : decode cX11_isIn 7 = .ok (.if_icmp .gt 7, 3)) (by decide),
   so_iconst rfl rfl (by decide +kernel : decode cX11_isIn 10 = .ok (.iconst 1, 1)) (by decide),
   so_goto rfl rfl (by decide +kernel : decode cX11_isIn 11 = .ok (.goto 4, 3)) (by decide),
   so_iconst rfl rfl (by decide +kernel : decode cX11_isIn 14 = .ok (.iconst 0, 1)) (by decide),
   so_zret rfl (by decide +kernel : decode cX11_isIn 15 = .ok (.ireturn, 1)) rfl, trivial⟩
theorem zq133 (hst : l.stackTraces = false) (i : Nat) : zSO l D γ τ L xs 133 cX11_isIn zp133 i (zc133.getD i zo_stuck) := zSl_at (zq133_0) i
end
section
variable {l : Launch} {D : va_G} {γ : Nat → ClassId} {τ : Nat → Nat} {L : Nat} {xs : Nat → Int32}
theorem zq134_0 : zSl l D γ τ L xs 134 cX11_isAxle zp134 0 [zo_ld 0 0, zo_push 0 0, zo_push 0 2, zo_callI 133 3 3, zo_zret] :=
  ⟨so_iload_n rfl rfl (by decide +kernel : decode cX11_isAxle 0 = .ok (.iload_n 0, 1)) rfl,
   so_iconst rfl rfl (by decide +kernel : decode cX11_isAxle 1 = .ok (.iconst 0, 1)) (by decide),
   so_iconst rfl rfl (by decide +kernel : decode cX11_isAxle 2 = .ok (.iconst 2, 1)) (by decide),
   so_callI rfl rfl (zrun_S (by decide +kernel : decode cX11_isAxle 3 = .ok (.invokestatic 85, 3)) rfl (zCal_mk zcc_133 (by decide +kernel)) ⟨zt_454, zt_455⟩) ⟨zcc_133.1, rfl⟩,
   so_zret rfl (by decide +kernel : decode cX11_isAxle 6 = .ok (.ireturn, 1)) rfl, trivial⟩
theorem zq134 (hst : l.stackTraces = false) (i : Nat) : zSO l D γ τ L xs 134 cX11_isAxle zp134 i (zc134.getD i zo_stuck) := zSl_at (zq134_0) i
end
section
variable {l : Launch} {D : va_G} {γ : Nat → ClassId} {τ : Nat → Nat} {L : Nat} {xs : Nat → Int32}
theorem zq135_0 : zSl l D γ τ L xs 135 cX11_isCell zp135 0 [zo_ld 0 0, zo_push 0 0, zo_push 0 31, zo_callI 133 3 3, zo_ifeq 12, zo_ld 0 1, zo_push 0 0, zo_push 0 31, zo_callI 133 3 3, zo_ifeq 12, zo_push 0 1, zo_goto 13, zo_push 0 0, zo_zret] :=
  ⟨so_iload_n rfl rfl (by decide +kernel : decode cX11_isCell 0 = .ok (.iload_n 0, 1)) rfl,
   so_iconst rfl rfl (by decide +kernel : decode cX11_isCell 1 = .ok (.iconst 0, 1)) (by decide),
   so_bipush rfl rfl (by decide +kernel : decode cX11_isCell 2 = .ok (.bipush 31, 2)) (by decide),
   so_callI rfl rfl (zrun_S (by decide +kernel : decode cX11_isCell 4 = .ok (.invokestatic 85, 3)) rfl (zCal_mk zcc_133 (by decide +kernel)) ⟨zt_454, zt_455⟩) ⟨zcc_133.1, rfl⟩,
   so_ifeq rfl rfl rfl (by decide +kernel : decode cX11_isCell 7 = .ok (.ifCond .eq 17, 3)) (by decide),
   so_iload_n rfl rfl (by decide +kernel : decode cX11_isCell 10 = .ok (.iload_n 1, 1)) rfl,
   so_iconst rfl rfl (by decide +kernel : decode cX11_isCell 11 = .ok (.iconst 0, 1)) (by decide),
   so_bipush rfl rfl (by decide +kernel : decode cX11_isCell 12 = .ok (.bipush 31, 2)) (by decide),
   so_callI rfl rfl (zrun_S (by decide +kernel : decode cX11_isCell 14 = .ok (.invokestatic 85, 3)) rfl (zCal_mk zcc_133 (by decide +kernel)) ⟨zt_454, zt_455⟩) ⟨zcc_133.1, rfl⟩,
   so_ifeq rfl rfl rfl (by decide +kernel : decode cX11_isCell 17 = .ok (.ifCond .eq 7, 3)) (by decide),
   so_iconst rfl rfl (by decide +kernel : decode cX11_isCell 20 = .ok (.iconst 1, 1)) (by decide),
   so_goto rfl rfl (by decide +kernel : decode cX11_isCell 21 = .ok (.goto 4, 3)) (by decide),
   so_iconst rfl rfl (by decide +kernel : decode cX11_isCell 24 = .ok (.iconst 0, 1)) (by decide),
   so_zret rfl (by decide +kernel : decode cX11_isCell 25 = .ok (.ireturn, 1)) rfl, trivial⟩
theorem zq135 (hst : l.stackTraces = false) (i : Nat) : zSO l D γ τ L xs 135 cX11_isCell zp135 i (zc135.getD i zo_stuck) := zSl_at (zq135_0) i
end
section
variable {l : Launch} {D : va_G} {γ : Nat → ClassId} {τ : Nat → Nat} {L : Nat} {xs : Nat → Int32}
theorem zq136_0 : zSl l D γ τ L xs 136 cX11_isTape zp136 0 [zo_ld 0 0, zo_push 0 0, zo_push 0 5, zo_callI 133 3 3, zo_zret] :=
  ⟨so_iload_n rfl rfl (by decide +kernel : decode cX11_isTape 0 = .ok (.iload_n 0, 1)) rfl,
   so_iconst rfl rfl (by decide +kernel : decode cX11_isTape 1 = .ok (.iconst 0, 1)) (by decide),
   so_iconst rfl rfl (by decide +kernel : decode cX11_isTape 2 = .ok (.iconst 5, 1)) (by decide),
   so_callI rfl rfl (zrun_S (by decide +kernel : decode cX11_isTape 3 = .ok (.invokestatic 85, 3)) rfl (zCal_mk zcc_133 (by decide +kernel)) ⟨zt_454, zt_455⟩) ⟨zcc_133.1, rfl⟩,
   so_zret rfl (by decide +kernel : decode cX11_isTape 6 = .ok (.ireturn, 1)) rfl, trivial⟩
theorem zq136 (hst : l.stackTraces = false) (i : Nat) : zSO l D γ τ L xs 136 cX11_isTape zp136 i (zc136.getD i zo_stuck) := zSl_at (zq136_0) i
end
section
variable {l : Launch} {D : va_G} {γ : Nat → ClassId} {τ : Nat → Nat} {L : Nat} {xs : Nat → Int32}
theorem zq137_0 : zSl l D γ τ L xs 137 cX11_isPart zp137 0 [zo_ld 0 0, zo_lsw [(0, 2), (1, 6), (2, 6), (3, 17)] 28, zo_ld 0 1, zo_ld 0 2, zo_callI 135 2 2, zo_zret, zo_ld 0 1, zo_push 0 1, zo_push 0 99, zo_callI 133 3 3, zo_ifeq 15, zo_ld 0 2, zo_ifne 15, zo_push 0 1, zo_goto 16, zo_push 0 0, zo_zret, zo_ld 0 1, zo_push 0 0, zo_push 0 3, zo_callI 133 3 3, zo_ifeq 26, zo_ld 0 2, zo_ifne 26, zo_push 0 1, zo_goto 27, zo_push 0 0, zo_zret, zo_push 0 0, zo_zret] :=
  ⟨so_iload_n rfl rfl (by decide +kernel : decode cX11_isPart 0 = .ok (.iload_n 0, 1)) rfl,
   so_tsw rfl (by decide +kernel : decode cX11_isPart 1 = .ok (.tableswitch 76 0 3 #[31, 37, 37, 57], 31)) ⟨rfl, by decide⟩ (List.forall_mem_cons.mpr ⟨⟨by decide, by decide, 32, 31, rfl, rfl, by decide⟩, List.forall_mem_cons.mpr ⟨⟨by decide, by decide, 38, 37, rfl, rfl, by decide⟩, List.forall_mem_cons.mpr ⟨⟨by decide, by decide, 38, 37, rfl, rfl, by decide⟩, List.forall_mem_cons.mpr ⟨⟨by decide, by decide, 58, 57, rfl, rfl, by decide⟩, fun _ h => absurd h List.not_mem_nil⟩⟩⟩⟩) (zsw_all (by decide) (by decide)),
   so_iload_n rfl rfl (by decide +kernel : decode cX11_isPart 32 = .ok (.iload_n 1, 1)) rfl,
   so_iload_n rfl rfl (by decide +kernel : decode cX11_isPart 33 = .ok (.iload_n 2, 1)) rfl,
   so_callI rfl rfl (zrun_S (by decide +kernel : decode cX11_isPart 34 = .ok (.invokestatic 130, 3)) rfl (zCal_mk zcc_135 (by decide +kernel)) ⟨zt_494, zt_495⟩) ⟨zcc_135.1, rfl⟩,
   so_zret rfl (by decide +kernel : decode cX11_isPart 37 = .ok (.ireturn, 1)) rfl,
   so_iload_n rfl rfl (by decide +kernel : decode cX11_isPart 38 = .ok (.iload_n 1, 1)) rfl,
   so_iconst rfl rfl (by decide +kernel : decode cX11_isPart 39 = .ok (.iconst 1, 1)) (by decide),
   so_bipush rfl rfl (by decide +kernel : decode cX11_isPart 40 = .ok (.bipush 99, 2)) (by decide),
   so_callI rfl rfl (zrun_S (by decide +kernel : decode cX11_isPart 42 = .ok (.invokestatic 85, 3)) rfl (zCal_mk zcc_133 (by decide +kernel)) ⟨zt_454, zt_455⟩) ⟨zcc_133.1, rfl⟩,
   so_ifeq rfl rfl rfl (by decide +kernel : decode cX11_isPart 45 = .ok (.ifCond .eq 11, 3)) (by decide),
   so_iload_n rfl rfl (by decide +kernel : decode cX11_isPart 48 = .ok (.iload_n 2, 1)) rfl,
   so_ifne rfl rfl rfl (by decide +kernel : decode cX11_isPart 49 = .ok (.ifCond .ne 7, 3)) (by decide),
   so_iconst rfl rfl (by decide +kernel : decode cX11_isPart 52 = .ok (.iconst 1, 1)) (by decide),
   so_goto rfl rfl (by decide +kernel : decode cX11_isPart 53 = .ok (.goto 4, 3)) (by decide),
   so_iconst rfl rfl (by decide +kernel : decode cX11_isPart 56 = .ok (.iconst 0, 1)) (by decide),
   so_zret rfl (by decide +kernel : decode cX11_isPart 57 = .ok (.ireturn, 1)) rfl,
   so_iload_n rfl rfl (by decide +kernel : decode cX11_isPart 58 = .ok (.iload_n 1, 1)) rfl,
   so_iconst rfl rfl (by decide +kernel : decode cX11_isPart 59 = .ok (.iconst 0, 1)) (by decide),
   so_iconst rfl rfl (by decide +kernel : decode cX11_isPart 60 = .ok (.iconst 3, 1)) (by decide),
   so_callI rfl rfl (zrun_S (by decide +kernel : decode cX11_isPart 61 = .ok (.invokestatic 85, 3)) rfl (zCal_mk zcc_133 (by decide +kernel)) ⟨zt_454, zt_455⟩) ⟨zcc_133.1, rfl⟩,
   so_ifeq rfl rfl rfl (by decide +kernel : decode cX11_isPart 64 = .ok (.ifCond .eq 11, 3)) (by decide),
   so_iload_n rfl rfl (by decide +kernel : decode cX11_isPart 67 = .ok (.iload_n 2, 1)) rfl,
   so_ifne rfl rfl rfl (by decide +kernel : decode cX11_isPart 68 = .ok (.ifCond .ne 7, 3)) (by decide),
   so_iconst rfl rfl (by decide +kernel : decode cX11_isPart 71 = .ok (.iconst 1, 1)) (by decide),
   so_goto rfl rfl (by decide +kernel : decode cX11_isPart 72 = .ok (.goto 4, 3)) (by decide),
   so_iconst rfl rfl (by decide +kernel : decode cX11_isPart 75 = .ok (.iconst 0, 1)) (by decide),
   so_zret rfl (by decide +kernel : decode cX11_isPart 76 = .ok (.ireturn, 1)) rfl,
   so_iconst rfl rfl (by decide +kernel : decode cX11_isPart 77 = .ok (.iconst 0, 1)) (by decide),
   so_zret rfl (by decide +kernel : decode cX11_isPart 78 = .ok (.ireturn, 1)) rfl, trivial⟩
theorem zq137 (hst : l.stackTraces = false) (i : Nat) : zSO l D γ τ L xs 137 cX11_isPart zp137 i (zc137.getD i zo_stuck) := zSl_at (zq137_0) i
end
section
variable {l : Launch} {D : va_G} {γ : Nat → ClassId} {τ : Nat → Nat} {L : Nat} {xs : Nat → Int32}
theorem zq138_0 : zSl l D γ τ L xs 138 cX11_makeWindings zp138 0 [zo_ld 2 0, zo_getR 11 1, zo_getI 5 2, zo_push 0 4, zo_irem, zo_ifeq 8, zo_push 0 (-5), zo_iret, zo_ld 2 0, zo_getR 11 2, zo_ld 2 0, zo_getR 11 1, zo_vcallI 53 1 1 11, zo_ld 2 0, zo_getR 11 1, zo_vcallI 54 1 1 11, zo_vcallI 36 3 3 9, zo_ifne 20, zo_push 0 (-4), zo_iret, zo_ld 2 0, zo_getR 11 6, zo_ld 2 0, zo_getR 11 1, zo_ld 2 0, zo_getR 11 0, zo_getI 0 3, zo_vcallI 86 3 5 16, zo_st 0 1, zo_ld 0 1, zo_ifge 33, zo_ld 0 1, zo_iret, zo_ld 2 0, zo_getR 11 6, zo_getI 10 4, zo_ifeq 39, zo_push 0 (-2), zo_iret, zo_ld 0 1] :=
  ⟨so_aload_n rfl rfl (by decide +kernel : decode cX11_makeWindings 0 = .ok (.aload_n 0, 1)) rfl,
   so_getR (jn := 1) rfl rfl (by decide +kernel : decode cX11_makeWindings 1 = .ok (.getfield 19, 3)) rfl zcl_11 ⟨by decide, rfl, rfl, rfl⟩ zt_413,
   so_getI (jn := 2) rfl rfl (by decide +kernel : decode cX11_makeWindings 4 = .ok (.getfield 354, 3)) rfl zcl_5 ⟨by decide, rfl, rfl, rfl⟩ zt_99,
   so_iconst rfl rfl (by decide +kernel : decode cX11_makeWindings 7 = .ok (.iconst 4, 1)) (by decide),
   so_irem rfl rfl (by decide +kernel : decode cX11_makeWindings 8 = .ok (.irem, 1)),
   so_ifeq rfl rfl rfl (by decide +kernel : decode cX11_makeWindings 9 = .ok (.ifCond .eq 6, 3)) (by decide),
   so_bipush rfl rfl (by decide +kernel : decode cX11_makeWindings 12 = .ok (.bipush (-5), 2)) (by decide),
   so_iret rfl (by decide +kernel : decode cX11_makeWindings 14 = .ok (.ireturn, 1)) rfl,
   so_aload_n rfl rfl (by decide +kernel : decode cX11_makeWindings 15 = .ok (.aload_n 0, 1)) rfl,
   so_getR (jn := 2) rfl rfl (by decide +kernel : decode cX11_makeWindings 16 = .ok (.getfield 26, 3)) rfl zcl_11 ⟨by decide, rfl, rfl, rfl⟩ zt_414,
   so_aload_n rfl rfl (by decide +kernel : decode cX11_makeWindings 19 = .ok (.aload_n 0, 1)) rfl,
   so_getR (jn := 1) rfl rfl (by decide +kernel : decode cX11_makeWindings 20 = .ok (.getfield 19, 3)) rfl zcl_11 ⟨by decide, rfl, rfl, rfl⟩ zt_413,
   so_vcallI rfl rfl (zrun_V (by decide +kernel : decode cX11_makeWindings 23 = .ok (.invokevirtual 357, 3)) rfl (zCal_mk zcc_53 (by decide +kernel)) (zvc_5) ⟨zt_730, zt_634, zt_635⟩) ⟨zcc_53.1, rfl⟩,
   so_aload_n rfl rfl (by decide +kernel : decode cX11_makeWindings 26 = .ok (.aload_n 0, 1)) rfl,
   so_getR (jn := 1) rfl rfl (by decide +kernel : decode cX11_makeWindings 27 = .ok (.getfield 19, 3)) rfl zcl_11 ⟨by decide, rfl, rfl, rfl⟩ zt_413,
   so_vcallI rfl rfl (zrun_V (by decide +kernel : decode cX11_makeWindings 30 = .ok (.invokevirtual 360, 3)) rfl (zCal_mk zcc_54 (by decide +kernel)) (zvc_5) ⟨zt_731, zt_641, zt_642⟩) ⟨zcc_54.1, rfl⟩,
   so_vcallI rfl rfl (zrun_V (by decide +kernel : decode cX11_makeWindings 33 = .ok (.invokevirtual 137, 3)) rfl (zCal_mk zcc_36 (by decide +kernel)) (zvc_3) ⟨zt_497, zt_498, zt_499⟩) ⟨zcc_36.1, rfl⟩,
   so_ifne rfl rfl rfl (by decide +kernel : decode cX11_makeWindings 36 = .ok (.ifCond .ne 6, 3)) (by decide),
   so_bipush rfl rfl (by decide +kernel : decode cX11_makeWindings 39 = .ok (.bipush (-4), 2)) (by decide),
   so_iret rfl (by decide +kernel : decode cX11_makeWindings 41 = .ok (.ireturn, 1)) rfl,
   so_aload_n rfl rfl (by decide +kernel : decode cX11_makeWindings 42 = .ok (.aload_n 0, 1)) rfl,
   so_getR (jn := 6) rfl rfl (by decide +kernel : decode cX11_makeWindings 43 = .ok (.getfield 58, 3)) rfl zcl_11 ⟨by decide, rfl, rfl, rfl⟩ zt_418,
   so_aload_n rfl rfl (by decide +kernel : decode cX11_makeWindings 46 = .ok (.aload_n 0, 1)) rfl,
   so_getR (jn := 1) rfl rfl (by decide +kernel : decode cX11_makeWindings 47 = .ok (.getfield 19, 3)) rfl zcl_11 ⟨by decide, rfl, rfl, rfl⟩ zt_413,
   so_aload_n rfl rfl (by decide +kernel : decode cX11_makeWindings 50 = .ok (.aload_n 0, 1)) rfl,
   so_getR (jn := 0) rfl rfl (by decide +kernel : decode cX11_makeWindings 51 = .ok (.getfield 12, 3)) rfl zcl_11 ⟨by decide, rfl, rfl, rfl⟩ zt_412,
   so_getI (jn := 3) rfl rfl (by decide +kernel : decode cX11_makeWindings 54 = .ok (.getfield 116, 3)) rfl zcl_0 ⟨by decide, rfl, rfl, rfl⟩ zt_78,
   so_vcallI rfl rfl (zrun_V (by decide +kernel : decode cX11_makeWindings 57 = .ok (.invokevirtual 363, 3)) rfl (zCal_mk zcc_86 (by decide +kernel)) (zvc_10) ⟨zt_732, zt_733, zt_734⟩) ⟨zcc_86.1, rfl⟩,
   so_istore_n rfl rfl (by decide +kernel : decode cX11_makeWindings 60 = .ok (.istore_n 1, 1)) rfl,
   so_iload_n rfl rfl (by decide +kernel : decode cX11_makeWindings 61 = .ok (.iload_n 1, 1)) rfl,
   so_ifge rfl rfl rfl (by decide +kernel : decode cX11_makeWindings 62 = .ok (.ifCond .ge 5, 3)) (by decide),
   so_iload_n rfl rfl (by decide +kernel : decode cX11_makeWindings 65 = .ok (.iload_n 1, 1)) rfl,
   so_iret rfl (by decide +kernel : decode cX11_makeWindings 66 = .ok (.ireturn, 1)) rfl,
   so_aload_n rfl rfl (by decide +kernel : decode cX11_makeWindings 67 = .ok (.aload_n 0, 1)) rfl,
   so_getR (jn := 6) rfl rfl (by decide +kernel : decode cX11_makeWindings 68 = .ok (.getfield 58, 3)) rfl zcl_11 ⟨by decide, rfl, rfl, rfl⟩ zt_418,
   so_getI (jn := 4) rfl rfl (by decide +kernel : decode cX11_makeWindings 71 = .ok (.getfield 367, 3)) rfl zcl_10 ⟨by decide, rfl, rfl, rfl⟩ zt_289,
   so_ifeq rfl rfl rfl (by decide +kernel : decode cX11_makeWindings 74 = .ok (.ifCond .eq 6, 3)) (by decide),
   so_bipush rfl rfl (by decide +kernel : decode cX11_makeWindings 77 = .ok (.bipush (-2), 2)) (by decide),
   so_iret rfl (by decide +kernel : decode cX11_makeWindings 79 = .ok (.ireturn, 1)) rfl,
   so_iload_n rfl rfl (by decide +kernel : decode cX11_makeWindings 80 = .ok (.iload_n 1, 1)) rfl, trivial⟩
theorem zq138_1 : zSl l D γ τ L xs 138 cX11_makeWindings zp138 40 [zo_ld 2 0, zo_getR 11 3, zo_getI 9 3, zo_icle 46, zo_push 0 (-6), zo_goto 47, zo_ld 0 1, zo_iret] :=
  ⟨so_aload_n rfl rfl (by decide +kernel : decode cX11_makeWindings 81 = .ok (.aload_n 0, 1)) rfl,
   so_getR (jn := 3) rfl rfl (by decide +kernel : decode cX11_makeWindings 82 = .ok (.getfield 33, 3)) rfl zcl_11 ⟨by decide, rfl, rfl, rfl⟩ zt_415,
   so_getI (jn := 3) rfl rfl (by decide +kernel : decode cX11_makeWindings 85 = .ok (.getfield 170, 3)) rfl zcl_9 ⟨by decide, rfl, rfl, rfl⟩ zt_172,
   so_icle rfl rfl rfl (by decide +kernel : decode cX11_makeWindings 88 = .ok (.if_icmp .le 8, 3)) (by decide),
   so_bipush rfl rfl (by decide +kernel : decode cX11_makeWindings 91 = .ok (.bipush (-6), 2)) (by decide),
   so_goto rfl rfl (by decide +kernel : decode cX11_makeWindings 93 = .ok (.goto 4, 3)) (by decide),
   so_iload_n rfl rfl (by decide +kernel : decode cX11_makeWindings 96 = .ok (.iload_n 1, 1)) rfl,
   so_iret rfl (by decide +kernel : decode cX11_makeWindings 97 = .ok (.ireturn, 1)) rfl, trivial⟩
theorem zq138 (hst : l.stackTraces = false) (i : Nat) : zSO l D γ τ L xs 138 cX11_makeWindings zp138 i (zc138.getD i zo_stuck) := zSl_at (zSl_app (zq138_0) (zq138_1) rfl) i
end
section
variable {l : Launch} {D : va_G} {γ : Nat → ClassId} {τ : Nat → Nat} {L : Nat} {xs : Nat → Int32}
theorem zq139_0 : zSl l D γ τ L xs 139 cX11_refusalOfCart zp139 0 [zo_ld 0 1, zo_callI 136 1 1, zo_ifne 5, zo_push 0 (-1), zo_iret, zo_ld 2 0, zo_getR 11 8, zo_ld 0 1, zo_aald 4, zo_getI 8 0, zo_ifne 15, zo_ld 2 0, zo_push 0 (-11), zo_vcallI 140 2 2 17, zo_iret, zo_ld 2 0, zo_getR 11 8, zo_ld 0 1, zo_aald 4, zo_getI 8 0, zo_push 0 5, zo_icne 24, zo_push 0 0, zo_goto 27, zo_ld 2 0, zo_push 0 (-12), zo_vcallI 140 2 2 17, zo_iret] :=
  ⟨so_iload_n rfl rfl (by decide +kernel : decode cX11_refusalOfCart 0 = .ok (.iload_n 1, 1)) rfl,
   so_callI rfl rfl (zrun_S (by decide +kernel : decode cX11_refusalOfCart 1 = .ok (.invokestatic 143, 3)) rfl (zCal_mk zcc_136 (by decide +kernel)) ⟨zt_514, zt_515⟩) ⟨zcc_136.1, rfl⟩,
   so_ifne rfl rfl rfl (by decide +kernel : decode cX11_refusalOfCart 4 = .ok (.ifCond .ne 5, 3)) (by decide),
   so_iconst rfl rfl (by decide +kernel : decode cX11_refusalOfCart 7 = .ok (.iconst (-1), 1)) (by decide),
   so_iret rfl (by decide +kernel : decode cX11_refusalOfCart 8 = .ok (.ireturn, 1)) rfl,
   so_aload_n rfl rfl (by decide +kernel : decode cX11_refusalOfCart 9 = .ok (.aload_n 0, 1)) rfl,
   so_getR (jn := 8) rfl rfl (by decide +kernel : decode cX11_refusalOfCart 10 = .ok (.getfield 73, 3)) rfl zcl_11 ⟨by decide, rfl, rfl, rfl⟩ zt_420,
   so_iload_n rfl rfl (by decide +kernel : decode cX11_refusalOfCart 13 = .ok (.iload_n 1, 1)) rfl,
   so_aald4 rfl rfl (by decide +kernel : decode cX11_refusalOfCart 14 = .ok (.aaload, 1)),
   so_getI (jn := 0) rfl rfl (by decide +kernel : decode cX11_refusalOfCart 15 = .ok (.getfield 146, 3)) rfl zcl_8 ⟨by decide, rfl, rfl, rfl⟩ zt_372,
   so_ifne rfl rfl rfl (by decide +kernel : decode cX11_refusalOfCart 18 = .ok (.ifCond .ne 10, 3)) (by decide),
   so_aload_n rfl rfl (by decide +kernel : decode cX11_refusalOfCart 21 = .ok (.aload_n 0, 1)) rfl,
   so_bipush rfl rfl (by decide +kernel : decode cX11_refusalOfCart 22 = .ok (.bipush (-11), 2)) (by decide),
   so_vcallI rfl rfl (zrun_V (by decide +kernel : decode cX11_refusalOfCart 24 = .ok (.invokevirtual 149, 3)) rfl (zCal_mk zcc_140 (by decide +kernel)) (zvc_11) ⟨zt_517, zt_519, zs_1⟩) ⟨zcc_140.1, rfl⟩,
   so_iret rfl (by decide +kernel : decode cX11_refusalOfCart 27 = .ok (.ireturn, 1)) rfl,
   so_aload_n rfl rfl (by decide +kernel : decode cX11_refusalOfCart 28 = .ok (.aload_n 0, 1)) rfl,
   so_getR (jn := 8) rfl rfl (by decide +kernel : decode cX11_refusalOfCart 29 = .ok (.getfield 73, 3)) rfl zcl_11 ⟨by decide, rfl, rfl, rfl⟩ zt_420,
   so_iload_n rfl rfl (by decide +kernel : decode cX11_refusalOfCart 32 = .ok (.iload_n 1, 1)) rfl,
   so_aald4 rfl rfl (by decide +kernel : decode cX11_refusalOfCart 33 = .ok (.aaload, 1)),
   so_getI (jn := 0) rfl rfl (by decide +kernel : decode cX11_refusalOfCart 34 = .ok (.getfield 146, 3)) rfl zcl_8 ⟨by decide, rfl, rfl, rfl⟩ zt_372,
   so_iconst rfl rfl (by decide +kernel : decode cX11_refusalOfCart 37 = .ok (.iconst 5, 1)) (by decide),
   so_icne rfl rfl rfl (by decide +kernel : decode cX11_refusalOfCart 38 = .ok (.if_icmp .ne 7, 3)) (by decide),
   so_iconst rfl rfl (by decide +kernel : decode cX11_refusalOfCart 41 = .ok (.iconst 0, 1)) (by decide),
   so_goto rfl rfl (by decide +kernel : decode cX11_refusalOfCart 42 = .ok (.goto 9, 3)) (by decide),
   so_aload_n rfl rfl (by decide +kernel : decode cX11_refusalOfCart 45 = .ok (.aload_n 0, 1)) rfl,
   so_bipush rfl rfl (by decide +kernel : decode cX11_refusalOfCart 46 = .ok (.bipush (-12), 2)) (by decide),
   so_vcallI rfl rfl (zrun_V (by decide +kernel : decode cX11_refusalOfCart 48 = .ok (.invokevirtual 149, 3)) rfl (zCal_mk zcc_140 (by decide +kernel)) (zvc_11) ⟨zt_517, zt_519, zs_1⟩) ⟨zcc_140.1, rfl⟩,
   so_iret rfl (by decide +kernel : decode cX11_refusalOfCart 51 = .ok (.ireturn, 1)) rfl, trivial⟩
theorem zq139 (hst : l.stackTraces = false) (i : Nat) : zSO l D γ τ L xs 139 cX11_refusalOfCart zp139 i (zc139.getD i zo_stuck) := zSl_at (zq139_0) i
end
