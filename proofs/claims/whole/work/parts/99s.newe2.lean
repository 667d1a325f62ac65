/-! the words, and the whole (printed) -/
set_option maxRecDepth 100000 in
set_option maxHeartbeats 4000000 in
theorem nw12_b {p : Program} {l : Launch} {e : Env} {s : State} {m : MethodId} {args : Array Value} {below : List Frame} {meth : Method} {c : Code} {D : va_G} {cy : Nat → ClassId} {A : Nat → Prop} {Q : State → Prop} {ls : Array Slot} {f : Nat → Nat} (C : NC nX12 p s m args meth c D cy A) (hl : lv_has ls nX12.2.2.1 [(0, .ref (f 0))]) (hG : ∃ ad, tq_str ad A s) (K : NW p l e rX12 s m args below meth c D A Q ls (f 0) 12 55 10225 920 (fX12 f) (wX12 cy f kX12) []) : NW p l e rX12 s m args below meth c D A Q ls (f 0) 12 55 10225 455 (fX12 f) (wX12 cy f (fun _ => 0)) [.ref (f 0)] := by
  refine NW_get C fl_RX12_34 rfl dX12_init_455 ?_
  refine NW_iconst (v := 0) C dX12_init_458 rfl ?_
  refine NW_bipush (v := 102) C dX12_init_459 rfl ?_
  refine NW_bipush (v := 105) C dX12_init_461 rfl ?_
  refine NW_bipush (v := 100) C dX12_init_463 rfl ?_
  refine NW_bipush (v := 100) C dX12_init_465 rfl ?_
  refine NW_bipush (v := 108) C dX12_init_467 rfl ?_
  refine NW_bipush (v := 101) C dX12_init_469 rfl ?_
  refine NW_iconst (v := 0) C dX12_init_471 rfl ?_
  refine NW_word C hl hG.choose_spec ml_RX12_185 ⟨Nat.le_of_ble_eq_true rfl, Nat.le_of_ble_eq_true rfl⟩ (Nat.le_of_ble_eq_true rfl) (Nat.le_of_ble_eq_true rfl) (Nat.le_of_ble_eq_true rfl) dX12_init_472 ?_
  refine NW_last (k0 := 48) (wX12 cy f) C (fun _ => rfl) (fun _ _ => rfl) (by unfold vp_in; decide +kernel) dX12_init_475 ?_
  refine NW_ld C hl dX12_init_476 ?_
  refine NW_get C fl_RX12_34 rfl dX12_init_477 ?_
  refine NW_iconst (v := 1) C dX12_init_480 rfl ?_
  refine NW_bipush (v := 111) C dX12_init_481 rfl ?_
  refine NW_bipush (v := 108) C dX12_init_483 rfl ?_
  refine NW_bipush (v := 100) C dX12_init_485 rfl ?_
  refine NW_iconst (v := 0) C dX12_init_487 rfl ?_
  refine NW_iconst (v := 0) C dX12_init_488 rfl ?_
  refine NW_iconst (v := 0) C dX12_init_489 rfl ?_
  refine NW_iconst (v := 0) C dX12_init_490 rfl ?_
  refine NW_word C hl hG.choose_spec ml_RX12_185 ⟨Nat.le_of_ble_eq_true rfl, Nat.le_of_ble_eq_true rfl⟩ (Nat.le_of_ble_eq_true rfl) (Nat.le_of_ble_eq_true rfl) (Nat.le_of_ble_eq_true rfl) dX12_init_491 ?_
  refine NW_last (k0 := 48) (wX12 cy f) C (fun _ => rfl) (fun _ _ => rfl) (by unfold vp_in; decide +kernel) dX12_init_494 ?_
  refine NW_ld C hl dX12_init_495 ?_
  refine NW_get C fl_RX12_34 rfl dX12_init_496 ?_
  refine NW_iconst (v := 2) C dX12_init_499 rfl ?_
  refine NW_bipush (v := 110) C dX12_init_500 rfl ?_
  refine NW_bipush (v := 101) C dX12_init_502 rfl ?_
  refine NW_bipush (v := 119) C dX12_init_504 rfl ?_
  refine NW_iconst (v := 0) C dX12_init_506 rfl ?_
  refine NW_iconst (v := 0) C dX12_init_507 rfl ?_
  refine NW_iconst (v := 0) C dX12_init_508 rfl ?_
  refine NW_iconst (v := 0) C dX12_init_509 rfl ?_
  refine NW_word C hl hG.choose_spec ml_RX12_185 ⟨Nat.le_of_ble_eq_true rfl, Nat.le_of_ble_eq_true rfl⟩ (Nat.le_of_ble_eq_true rfl) (Nat.le_of_ble_eq_true rfl) (Nat.le_of_ble_eq_true rfl) dX12_init_510 ?_
  refine NW_last (k0 := 48) (wX12 cy f) C (fun _ => rfl) (fun _ _ => rfl) (by unfold vp_in; decide +kernel) dX12_init_513 ?_
  refine NW_ld C hl dX12_init_514 ?_
  refine NW_get C fl_RX12_34 rfl dX12_init_515 ?_
  refine NW_iconst (v := 3) C dX12_init_518 rfl ?_
  refine NW_bipush (v := 98) C dX12_init_519 rfl ?_
  refine NW_bipush (v := 97) C dX12_init_521 rfl ?_
  refine NW_bipush (v := 114) C dX12_init_523 rfl ?_
  refine NW_bipush (v := 114) C dX12_init_525 rfl ?_
  refine NW_bipush (v := 101) C dX12_init_527 rfl ?_
  refine NW_bipush (v := 100) C dX12_init_529 rfl ?_
  refine NW_iconst (v := 0) C dX12_init_531 rfl ?_
  refine NW_word C hl hG.choose_spec ml_RX12_185 ⟨Nat.le_of_ble_eq_true rfl, Nat.le_of_ble_eq_true rfl⟩ (Nat.le_of_ble_eq_true rfl) (Nat.le_of_ble_eq_true rfl) (Nat.le_of_ble_eq_true rfl) dX12_init_532 ?_
  refine NW_last (k0 := 48) (wX12 cy f) C (fun _ => rfl) (fun _ _ => rfl) (by unfold vp_in; decide +kernel) dX12_init_535 ?_
  refine NW_ld C hl dX12_init_536 ?_
  refine NW_get C fl_RX12_34 rfl dX12_init_537 ?_
  refine NW_iconst (v := 4) C dX12_init_540 rfl ?_
  refine NW_bipush (v := 112) C dX12_init_541 rfl ?_
  refine NW_bipush (v := 108) C dX12_init_543 rfl ?_
  refine NW_bipush (v := 97) C dX12_init_545 rfl ?_
  refine NW_bipush (v := 121) C dX12_init_547 rfl ?_
  refine NW_bipush (v := 101) C dX12_init_549 rfl ?_
  refine NW_bipush (v := 114) C dX12_init_551 rfl ?_
  refine NW_iconst (v := 0) C dX12_init_553 rfl ?_
  refine NW_word C hl hG.choose_spec ml_RX12_185 ⟨Nat.le_of_ble_eq_true rfl, Nat.le_of_ble_eq_true rfl⟩ (Nat.le_of_ble_eq_true rfl) (Nat.le_of_ble_eq_true rfl) (Nat.le_of_ble_eq_true rfl) dX12_init_554 ?_
  refine NW_last (k0 := 48) (wX12 cy f) C (fun _ => rfl) (fun _ _ => rfl) (by unfold vp_in; decide +kernel) dX12_init_557 ?_
  refine NW_ld C hl dX12_init_558 ?_
  refine NW_get C fl_RX12_34 rfl dX12_init_559 ?_
  refine NW_iconst (v := 5) C dX12_init_562 rfl ?_
  refine NW_bipush (v := 104) C dX12_init_563 rfl ?_
  refine NW_bipush (v := 101) C dX12_init_565 rfl ?_
  refine NW_bipush (v := 97) C dX12_init_567 rfl ?_
  refine NW_bipush (v := 114) C dX12_init_569 rfl ?_
  refine NW_bipush (v := 101) C dX12_init_571 rfl ?_
  refine NW_bipush (v := 114) C dX12_init_573 rfl ?_
  refine NW_iconst (v := 0) C dX12_init_575 rfl ?_
  refine NW_word C hl hG.choose_spec ml_RX12_185 ⟨Nat.le_of_ble_eq_true rfl, Nat.le_of_ble_eq_true rfl⟩ (Nat.le_of_ble_eq_true rfl) (Nat.le_of_ble_eq_true rfl) (Nat.le_of_ble_eq_true rfl) dX12_init_576 ?_
  refine NW_last (k0 := 48) (wX12 cy f) C (fun _ => rfl) (fun _ _ => rfl) (by unfold vp_in; decide +kernel) dX12_init_579 ?_
  refine NW_ld C hl dX12_init_580 ?_
  refine NW_get C fl_RX12_34 rfl dX12_init_581 ?_
  refine NW_bipush (v := 6) C dX12_init_584 rfl ?_
  refine NW_bipush (v := 98) C dX12_init_586 rfl ?_
  refine NW_bipush (v := 111) C dX12_init_588 rfl ?_
  refine NW_bipush (v := 119) C dX12_init_590 rfl ?_
  refine NW_iconst (v := 0) C dX12_init_592 rfl ?_
  refine NW_iconst (v := 0) C dX12_init_593 rfl ?_
  refine NW_iconst (v := 0) C dX12_init_594 rfl ?_
  refine NW_iconst (v := 0) C dX12_init_595 rfl ?_
  refine NW_word C hl hG.choose_spec ml_RX12_185 ⟨Nat.le_of_ble_eq_true rfl, Nat.le_of_ble_eq_true rfl⟩ (Nat.le_of_ble_eq_true rfl) (Nat.le_of_ble_eq_true rfl) (Nat.le_of_ble_eq_true rfl) dX12_init_596 ?_
  refine NW_last (k0 := 48) (wX12 cy f) C (fun _ => rfl) (fun _ _ => rfl) (by unfold vp_in; decide +kernel) dX12_init_599 ?_
  refine NW_ld C hl dX12_init_600 ?_
  refine NW_get C fl_RX12_34 rfl dX12_init_601 ?_
  refine NW_bipush (v := 7) C dX12_init_604 rfl ?_
  refine NW_bipush (v := 108) C dX12_init_606 rfl ?_
  refine NW_bipush (v := 97) C dX12_init_608 rfl ?_
  refine NW_bipush (v := 119) C dX12_init_610 rfl ?_
  refine NW_iconst (v := 0) C dX12_init_612 rfl ?_
  refine NW_iconst (v := 0) C dX12_init_613 rfl ?_
  refine NW_iconst (v := 0) C dX12_init_614 rfl ?_
  refine NW_iconst (v := 0) C dX12_init_615 rfl ?_
  refine NW_word C hl hG.choose_spec ml_RX12_185 ⟨Nat.le_of_ble_eq_true rfl, Nat.le_of_ble_eq_true rfl⟩ (Nat.le_of_ble_eq_true rfl) (Nat.le_of_ble_eq_true rfl) (Nat.le_of_ble_eq_true rfl) dX12_init_616 ?_
  refine NW_last (k0 := 48) (wX12 cy f) C (fun _ => rfl) (fun _ _ => rfl) (by unfold vp_in; decide +kernel) dX12_init_619 ?_
  refine NW_ld C hl dX12_init_620 ?_
  refine NW_get C fl_RX12_34 rfl dX12_init_621 ?_
  refine NW_bipush (v := 8) C dX12_init_624 rfl ?_
  refine NW_bipush (v := 112) C dX12_init_626 rfl ?_
  refine NW_bipush (v := 108) C dX12_init_628 rfl ?_
  refine NW_bipush (v := 97) C dX12_init_630 rfl ?_
  refine NW_bipush (v := 110) C dX12_init_632 rfl ?_
  refine NW_iconst (v := 0) C dX12_init_634 rfl ?_
  refine NW_iconst (v := 0) C dX12_init_635 rfl ?_
  refine NW_iconst (v := 0) C dX12_init_636 rfl ?_
  refine NW_word C hl hG.choose_spec ml_RX12_185 ⟨Nat.le_of_ble_eq_true rfl, Nat.le_of_ble_eq_true rfl⟩ (Nat.le_of_ble_eq_true rfl) (Nat.le_of_ble_eq_true rfl) (Nat.le_of_ble_eq_true rfl) dX12_init_637 ?_
  refine NW_last (k0 := 48) (wX12 cy f) C (fun _ => rfl) (fun _ _ => rfl) (by unfold vp_in; decide +kernel) dX12_init_640 ?_
  refine NW_ld C hl dX12_init_641 ?_
  refine NW_get C fl_RX12_34 rfl dX12_init_642 ?_
  refine NW_bipush (v := 9) C dX12_init_645 rfl ?_
  refine NW_bipush (v := 115) C dX12_init_647 rfl ?_
  refine NW_bipush (v := 105) C dX12_init_649 rfl ?_
  refine NW_bipush (v := 116) C dX12_init_651 rfl ?_
  refine NW_iconst (v := 0) C dX12_init_653 rfl ?_
  refine NW_iconst (v := 0) C dX12_init_654 rfl ?_
  refine NW_iconst (v := 0) C dX12_init_655 rfl ?_
  refine NW_iconst (v := 0) C dX12_init_656 rfl ?_
  refine NW_word C hl hG.choose_spec ml_RX12_185 ⟨Nat.le_of_ble_eq_true rfl, Nat.le_of_ble_eq_true rfl⟩ (Nat.le_of_ble_eq_true rfl) (Nat.le_of_ble_eq_true rfl) (Nat.le_of_ble_eq_true rfl) dX12_init_657 ?_
  refine NW_last (k0 := 48) (wX12 cy f) C (fun _ => rfl) (fun _ _ => rfl) (by unfold vp_in; decide +kernel) dX12_init_660 ?_
  refine NW_ld C hl dX12_init_661 ?_
  refine NW_get C fl_RX12_34 rfl dX12_init_662 ?_
  refine NW_bipush (v := 10) C dX12_init_665 rfl ?_
  refine NW_bipush (v := 119) C dX12_init_667 rfl ?_
  refine NW_bipush (v := 105) C dX12_init_669 rfl ?_
  refine NW_bipush (v := 116) C dX12_init_671 rfl ?_
  refine NW_bipush (v := 104) C dX12_init_673 rfl ?_
  refine NW_iconst (v := 0) C dX12_init_675 rfl ?_
  refine NW_iconst (v := 0) C dX12_init_676 rfl ?_
  refine NW_iconst (v := 0) C dX12_init_677 rfl ?_
  refine NW_word C hl hG.choose_spec ml_RX12_185 ⟨Nat.le_of_ble_eq_true rfl, Nat.le_of_ble_eq_true rfl⟩ (Nat.le_of_ble_eq_true rfl) (Nat.le_of_ble_eq_true rfl) (Nat.le_of_ble_eq_true rfl) dX12_init_678 ?_
  refine NW_last (k0 := 48) (wX12 cy f) C (fun _ => rfl) (fun _ _ => rfl) (by unfold vp_in; decide +kernel) dX12_init_681 ?_
  refine NW_ld C hl dX12_init_682 ?_
  refine NW_get C fl_RX12_34 rfl dX12_init_683 ?_
  refine NW_bipush (v := 11) C dX12_init_686 rfl ?_
  refine NW_bipush (v := 115) C dX12_init_688 rfl ?_
  refine NW_bipush (v := 101) C dX12_init_690 rfl ?_
  refine NW_bipush (v := 101) C dX12_init_692 rfl ?_
  refine NW_bipush (v := 110) C dX12_init_694 rfl ?_
  refine NW_iconst (v := 0) C dX12_init_696 rfl ?_
  refine NW_iconst (v := 0) C dX12_init_697 rfl ?_
  refine NW_iconst (v := 0) C dX12_init_698 rfl ?_
  refine NW_word C hl hG.choose_spec ml_RX12_185 ⟨Nat.le_of_ble_eq_true rfl, Nat.le_of_ble_eq_true rfl⟩ (Nat.le_of_ble_eq_true rfl) (Nat.le_of_ble_eq_true rfl) (Nat.le_of_ble_eq_true rfl) dX12_init_699 ?_
  refine NW_last (k0 := 48) (wX12 cy f) C (fun _ => rfl) (fun _ _ => rfl) (by unfold vp_in; decide +kernel) dX12_init_702 ?_
  refine NW_ld C hl dX12_init_703 ?_
  refine NW_get C fl_RX12_34 rfl dX12_init_704 ?_
  refine NW_bipush (v := 12) C dX12_init_707 rfl ?_
  refine NW_bipush (v := 98) C dX12_init_709 rfl ?_
  refine NW_bipush (v := 114) C dX12_init_711 rfl ?_
  refine NW_bipush (v := 105) C dX12_init_713 rfl ?_
  refine NW_bipush (v := 103) C dX12_init_715 rfl ?_
  refine NW_bipush (v := 104) C dX12_init_717 rfl ?_
  refine NW_bipush (v := 116) C dX12_init_719 rfl ?_
  refine NW_iconst (v := 0) C dX12_init_721 rfl ?_
  refine NW_word C hl hG.choose_spec ml_RX12_185 ⟨Nat.le_of_ble_eq_true rfl, Nat.le_of_ble_eq_true rfl⟩ (Nat.le_of_ble_eq_true rfl) (Nat.le_of_ble_eq_true rfl) (Nat.le_of_ble_eq_true rfl) dX12_init_722 ?_
  refine NW_last (k0 := 48) (wX12 cy f) C (fun _ => rfl) (fun _ _ => rfl) (by unfold vp_in; decide +kernel) dX12_init_725 ?_
  refine NW_ld C hl dX12_init_726 ?_
  refine NW_get C fl_RX12_34 rfl dX12_init_727 ?_
  refine NW_bipush (v := 13) C dX12_init_730 rfl ?_
  refine NW_bipush (v := 108) C dX12_init_732 rfl ?_
  refine NW_bipush (v := 111) C dX12_init_734 rfl ?_
  refine NW_bipush (v := 117) C dX12_init_736 rfl ?_
  refine NW_bipush (v := 100) C dX12_init_738 rfl ?_
  refine NW_iconst (v := 0) C dX12_init_740 rfl ?_
  refine NW_iconst (v := 0) C dX12_init_741 rfl ?_
  refine NW_iconst (v := 0) C dX12_init_742 rfl ?_
  refine NW_word C hl hG.choose_spec ml_RX12_185 ⟨Nat.le_of_ble_eq_true rfl, Nat.le_of_ble_eq_true rfl⟩ (Nat.le_of_ble_eq_true rfl) (Nat.le_of_ble_eq_true rfl) (Nat.le_of_ble_eq_true rfl) dX12_init_743 ?_
  refine NW_last (k0 := 48) (wX12 cy f) C (fun _ => rfl) (fun _ _ => rfl) (by unfold vp_in; decide +kernel) dX12_init_746 ?_
  refine NW_ld C hl dX12_init_747 ?_
  refine NW_get C fl_RX12_34 rfl dX12_init_748 ?_
  refine NW_bipush (v := 14) C dX12_init_751 rfl ?_
  refine NW_bipush (v := 113) C dX12_init_753 rfl ?_
  refine NW_bipush (v := 117) C dX12_init_755 rfl ?_
  refine NW_bipush (v := 105) C dX12_init_757 rfl ?_
  refine NW_bipush (v := 99) C dX12_init_759 rfl ?_
  refine NW_bipush (v := 107) C dX12_init_761 rfl ?_
  refine NW_iconst (v := 0) C dX12_init_763 rfl ?_
  refine NW_iconst (v := 0) C dX12_init_764 rfl ?_
  refine NW_word C hl hG.choose_spec ml_RX12_185 ⟨Nat.le_of_ble_eq_true rfl, Nat.le_of_ble_eq_true rfl⟩ (Nat.le_of_ble_eq_true rfl) (Nat.le_of_ble_eq_true rfl) (Nat.le_of_ble_eq_true rfl) dX12_init_765 ?_
  refine NW_last (k0 := 48) (wX12 cy f) C (fun _ => rfl) (fun _ _ => rfl) (by unfold vp_in; decide +kernel) dX12_init_768 ?_
  refine NW_ld C hl dX12_init_769 ?_
  refine NW_get C fl_RX12_34 rfl dX12_init_770 ?_
  refine NW_bipush (v := 15) C dX12_init_773 rfl ?_
  refine NW_bipush (v := 119) C dX12_init_775 rfl ?_
  refine NW_bipush (v := 97) C dX12_init_777 rfl ?_
  refine NW_bipush (v := 114) C dX12_init_779 rfl ?_
  refine NW_bipush (v := 109) C dX12_init_781 rfl ?_
  refine NW_iconst (v := 0) C dX12_init_783 rfl ?_
  refine NW_iconst (v := 0) C dX12_init_784 rfl ?_
  refine NW_iconst (v := 0) C dX12_init_785 rfl ?_
  refine NW_word C hl hG.choose_spec ml_RX12_185 ⟨Nat.le_of_ble_eq_true rfl, Nat.le_of_ble_eq_true rfl⟩ (Nat.le_of_ble_eq_true rfl) (Nat.le_of_ble_eq_true rfl) (Nat.le_of_ble_eq_true rfl) dX12_init_786 ?_
  refine NW_last (k0 := 48) (wX12 cy f) C (fun _ => rfl) (fun _ _ => rfl) (by unfold vp_in; decide +kernel) dX12_init_789 ?_
  refine NW_ld C hl dX12_init_790 ?_
  refine NW_get C fl_RX12_34 rfl dX12_init_791 ?_
  refine NW_bipush (v := 16) C dX12_init_794 rfl ?_
  refine NW_bipush (v := 115) C dX12_init_796 rfl ?_
  refine NW_bipush (v := 116) C dX12_init_798 rfl ?_
  refine NW_bipush (v := 114) C dX12_init_800 rfl ?_
  refine NW_bipush (v := 111) C dX12_init_802 rfl ?_
  refine NW_bipush (v := 110) C dX12_init_804 rfl ?_
  refine NW_bipush (v := 103) C dX12_init_806 rfl ?_
  refine NW_iconst (v := 0) C dX12_init_808 rfl ?_
  refine NW_word C hl hG.choose_spec ml_RX12_185 ⟨Nat.le_of_ble_eq_true rfl, Nat.le_of_ble_eq_true rfl⟩ (Nat.le_of_ble_eq_true rfl) (Nat.le_of_ble_eq_true rfl) (Nat.le_of_ble_eq_true rfl) dX12_init_809 ?_
  refine NW_last (k0 := 48) (wX12 cy f) C (fun _ => rfl) (fun _ _ => rfl) (by unfold vp_in; decide +kernel) dX12_init_812 ?_
  refine NW_ld C hl dX12_init_813 ?_
  refine NW_get C fl_RX12_34 rfl dX12_init_814 ?_
  refine NW_bipush (v := 17) C dX12_init_817 rfl ?_
  refine NW_bipush (v := 108) C dX12_init_819 rfl ?_
  refine NW_bipush (v := 105) C dX12_init_821 rfl ?_
  refine NW_bipush (v := 103) C dX12_init_823 rfl ?_
  refine NW_bipush (v := 104) C dX12_init_825 rfl ?_
  refine NW_bipush (v := 116) C dX12_init_827 rfl ?_
  refine NW_iconst (v := 0) C dX12_init_829 rfl ?_
  refine NW_iconst (v := 0) C dX12_init_830 rfl ?_
  refine NW_word C hl hG.choose_spec ml_RX12_185 ⟨Nat.le_of_ble_eq_true rfl, Nat.le_of_ble_eq_true rfl⟩ (Nat.le_of_ble_eq_true rfl) (Nat.le_of_ble_eq_true rfl) (Nat.le_of_ble_eq_true rfl) dX12_init_831 ?_
  refine NW_last (k0 := 48) (wX12 cy f) C (fun _ => rfl) (fun _ _ => rfl) (by unfold vp_in; decide +kernel) dX12_init_834 ?_
  refine NW_ld C hl dX12_init_835 ?_
  refine NW_get C fl_RX12_34 rfl dX12_init_836 ?_
  refine NW_bipush (v := 18) C dX12_init_839 rfl ?_
  refine NW_bipush (v := 104) C dX12_init_841 rfl ?_
  refine NW_bipush (v := 97) C dX12_init_843 rfl ?_
  refine NW_bipush (v := 98) C dX12_init_845 rfl ?_
  refine NW_bipush (v := 105) C dX12_init_847 rfl ?_
  refine NW_bipush (v := 116) C dX12_init_849 rfl ?_
  refine NW_iconst (v := 0) C dX12_init_851 rfl ?_
  refine NW_iconst (v := 0) C dX12_init_852 rfl ?_
  refine NW_word C hl hG.choose_spec ml_RX12_185 ⟨Nat.le_of_ble_eq_true rfl, Nat.le_of_ble_eq_true rfl⟩ (Nat.le_of_ble_eq_true rfl) (Nat.le_of_ble_eq_true rfl) (Nat.le_of_ble_eq_true rfl) dX12_init_853 ?_
  refine NW_last (k0 := 48) (wX12 cy f) C (fun _ => rfl) (fun _ _ => rfl) (by unfold vp_in; decide +kernel) dX12_init_856 ?_
  refine NW_ld C hl dX12_init_857 ?_
  refine NW_get C fl_RX12_34 rfl dX12_init_858 ?_
  refine NW_bipush (v := 19) C dX12_init_861 rfl ?_
  refine NW_bipush (v := 115) C dX12_init_863 rfl ?_
  refine NW_bipush (v := 112) C dX12_init_865 rfl ?_
  refine NW_bipush (v := 111) C dX12_init_867 rfl ?_
  refine NW_bipush (v := 116) C dX12_init_869 rfl ?_
  refine NW_iconst (v := 0) C dX12_init_871 rfl ?_
  refine NW_iconst (v := 0) C dX12_init_872 rfl ?_
  refine NW_iconst (v := 0) C dX12_init_873 rfl ?_
  refine NW_word C hl hG.choose_spec ml_RX12_185 ⟨Nat.le_of_ble_eq_true rfl, Nat.le_of_ble_eq_true rfl⟩ (Nat.le_of_ble_eq_true rfl) (Nat.le_of_ble_eq_true rfl) (Nat.le_of_ble_eq_true rfl) dX12_init_874 ?_
  refine NW_last (k0 := 48) (wX12 cy f) C (fun _ => rfl) (fun _ _ => rfl) (by unfold vp_in; decide +kernel) dX12_init_877 ?_
  refine NW_ld C hl dX12_init_878 ?_
  refine NW_get C fl_RX12_34 rfl dX12_init_879 ?_
  refine NW_bipush (v := 20) C dX12_init_882 rfl ?_
  refine NW_bipush (v := 102) C dX12_init_884 rfl ?_
  refine NW_bipush (v := 97) C dX12_init_886 rfl ?_
  refine NW_bipush (v := 114) C dX12_init_888 rfl ?_
  refine NW_iconst (v := 0) C dX12_init_890 rfl ?_
  refine NW_iconst (v := 0) C dX12_init_891 rfl ?_
  refine NW_iconst (v := 0) C dX12_init_892 rfl ?_
  refine NW_iconst (v := 0) C dX12_init_893 rfl ?_
  refine NW_word C hl hG.choose_spec ml_RX12_185 ⟨Nat.le_of_ble_eq_true rfl, Nat.le_of_ble_eq_true rfl⟩ (Nat.le_of_ble_eq_true rfl) (Nat.le_of_ble_eq_true rfl) (Nat.le_of_ble_eq_true rfl) dX12_init_894 ?_
  refine NW_last (k0 := 48) (wX12 cy f) C (fun _ => rfl) (fun _ _ => rfl) (by unfold vp_in; decide +kernel) dX12_init_897 ?_
  refine NW_ld C hl dX12_init_898 ?_
  refine NW_get C fl_RX12_34 rfl dX12_init_899 ?_
  refine NW_bipush (v := 21) C dX12_init_902 rfl ?_
  refine NW_bipush (v := 110) C dX12_init_904 rfl ?_
  refine NW_bipush (v := 111) C dX12_init_906 rfl ?_
  refine NW_bipush (v := 105) C dX12_init_908 rfl ?_
  refine NW_bipush (v := 115) C dX12_init_910 rfl ?_
  refine NW_bipush (v := 101) C dX12_init_912 rfl ?_
  refine NW_iconst (v := 0) C dX12_init_914 rfl ?_
  refine NW_iconst (v := 0) C dX12_init_915 rfl ?_
  refine NW_word C hl hG.choose_spec ml_RX12_185 ⟨Nat.le_of_ble_eq_true rfl, Nat.le_of_ble_eq_true rfl⟩ (Nat.le_of_ble_eq_true rfl) (Nat.le_of_ble_eq_true rfl) (Nat.le_of_ble_eq_true rfl) dX12_init_916 ?_
  refine NW_last (k0 := 48) (wX12 cy f) C (fun _ => rfl) (fun _ _ => rfl) (by unfold vp_in; decide +kernel) dX12_init_919 ?_
  exact K
set_option maxRecDepth 100000 in
set_option maxHeartbeats 4000000 in
theorem mkN_12 : NEv nX12 rX12 12 (.int 0 :: .null :: .int 0 :: .null :: .int 0 :: .null :: .null :: .null :: .null :: .null :: .int 0 :: .int 0 :: .int 0 :: .int 0 :: .int 0 :: .int 0 :: .int 0 :: .int 0 :: .int 0 :: .int 0 :: .int 0 :: .null :: .null :: .null :: .null :: .null :: .null :: .null :: .null :: .null :: .null :: .null :: .null :: .null :: .null :: .null :: .null :: .null :: .null :: .null :: .null :: .null :: .null :: .null :: .int 0 :: .null :: .null :: .null :: .int 0 :: .null :: .null :: .null :: .int 0 :: .null :: .null :: .null :: .null :: .null :: .null :: .null :: .null :: .int 0 :: .null :: .null :: .null :: .null :: .int 0 :: .int 0 :: .int 0 :: .null :: .null :: .int 0 :: .null :: .int 0 :: .int 0 :: .null :: .null :: .null :: .null :: []) (fun A U => ∃ ad, tq_str ad A U) bX12 := by
  refine NEv_of (by decide +kernel) rfl rfl (by decide) ?_
  intro p l e s m args below meth c D cy A ls h0 C hG hl
  refine nw12_a C hl (fun f hf => ?_)
  subst hf
  refine nw12_b C hl hG ?_
  exact NW_ret C dX12_init_920 ⟨f, rfl, rfl⟩
