theorem inW0 : ∀ w ∈ u_ws RX0 TX0 3, w ∈ WU := by
  intro w hw
  obtain ⟨k, hk, rfl⟩ := List.mem_map.mp hw
  have hk := List.mem_range.mp hk
  match k, hk with
  | 0, _ => exact u_476
  | 1, _ => exact u_477
  | 2, _ => exact u_478
  | n + 3, h => exact absurd h (by omega)
theorem inW1 : ∀ w ∈ u_ws RX1 TX1 12, w ∈ WU := by
  intro w hw
  obtain ⟨k, hk, rfl⟩ := List.mem_map.mp hw
  have hk := List.mem_range.mp hk
  match k, hk with
  | 0, _ => exact u_479
  | 1, _ => exact u_480
  | 2, _ => exact u_481
  | 3, _ => exact u_482
  | 4, _ => exact u_483
  | 5, _ => exact u_484
  | 6, _ => exact u_485
  | 7, _ => exact u_486
  | 8, _ => exact u_487
  | 9, _ => exact u_488
  | 10, _ => exact u_489
  | 11, _ => exact u_490
  | n + 12, h => exact absurd h (by omega)
theorem inW2 : ∀ w ∈ u_ws RX2 TX2 2, w ∈ WU := by
  intro w hw
  obtain ⟨k, hk, rfl⟩ := List.mem_map.mp hw
  have hk := List.mem_range.mp hk
  match k, hk with
  | 0, _ => exact u_491
  | 1, _ => exact u_492
  | n + 2, h => exact absurd h (by omega)
theorem inW3 : ∀ w ∈ u_ws RX3 TX3 5, w ∈ WU := by
  intro w hw
  obtain ⟨k, hk, rfl⟩ := List.mem_map.mp hw
  have hk := List.mem_range.mp hk
  match k, hk with
  | 0, _ => exact u_493
  | 1, _ => exact u_494
  | 2, _ => exact u_495
  | 3, _ => exact u_496
  | 4, _ => exact u_497
  | n + 5, h => exact absurd h (by omega)
theorem inW4 : ∀ w ∈ u_ws RX4 TX4 8, w ∈ WU := by
  intro w hw
  obtain ⟨k, hk, rfl⟩ := List.mem_map.mp hw
  have hk := List.mem_range.mp hk
  match k, hk with
  | 0, _ => exact u_498
  | 1, _ => exact u_499
  | 2, _ => exact u_500
  | 3, _ => exact u_501
  | 4, _ => exact u_502
  | 5, _ => exact u_503
  | 6, _ => exact u_504
  | 7, _ => exact u_505
  | n + 8, h => exact absurd h (by omega)
theorem inW5 : ∀ w ∈ u_ws RX5 TX5 16, w ∈ WU := by
  intro w hw
  obtain ⟨k, hk, rfl⟩ := List.mem_map.mp hw
  have hk := List.mem_range.mp hk
  match k, hk with
  | 0, _ => exact u_506
  | 1, _ => exact u_507
  | 2, _ => exact u_508
  | 3, _ => exact u_509
  | 4, _ => exact u_510
  | 5, _ => exact u_511
  | 6, _ => exact u_512
  | 7, _ => exact u_513
  | 8, _ => exact u_514
  | 9, _ => exact u_515
  | 10, _ => exact u_516
  | 11, _ => exact u_517
  | 12, _ => exact u_518
  | 13, _ => exact u_519
  | 14, _ => exact u_520
  | 15, _ => exact u_521
  | n + 16, h => exact absurd h (by omega)
def flX0 : Fls := [(9, 0, 0, 0), (15, 0, 1, 0), (18, 0, 2, 2)]
theorem flX0_ok : ∀ ix ci fk kd, flX0.lookup ix = some (ci, fk, kd) → FlOK RX0 ix ci fk kd := allF_ok ⟨⟨RX0, TX0, 3, tyX0, rfl, by decide, inW0, tyX0_ok, nmX0, Or.inl u_524, fun _ => rfl, fun _ => rfl, fun h => absurd h (by decide)⟩, ⟨⟨RX0, TX0, 3, tyX0, rfl, by decide, inW0, tyX0_ok, nmX0, Or.inl u_523, fun _ => rfl, fun _ => rfl, fun h => absurd h (by decide)⟩, ⟨⟨RX0, TX0, 3, tyX0, rfl, by decide, inW0, tyX0_ok, nmX0, Or.inl u_522, fun h => absurd h (by decide), fun h => absurd h (by decide), fun h => absurd h (by decide)⟩, trivial⟩⟩⟩
def cnX0 : Cns := []
theorem cnX0_ok : ∀ ix v, cnX0.lookup ix = some v → CnOK RX0 ix v := allN_ok trivial
def flX1 : Fls := [(9, 1, 0, 0), (15, 1, 1, 0), (18, 1, 2, 2), (22, 1, 3, 2), (25, 1, 4, 2), (28, 1, 5, 0), (31, 1, 6, 2), (34, 1, 7, 2), (37, 1, 8, 2), (40, 1, 9, 2), (43, 1, 10, 2), (46, 1, 11, 2)]
theorem flX1_ok : ∀ ix ci fk kd, flX1.lookup ix = some (ci, fk, kd) → FlOK RX1 ix ci fk kd := allF_ok ⟨⟨RX1, TX1, 12, tyX1, rfl, by decide, inW1, tyX1_ok, nmX1, Or.inl u_536, fun _ => rfl, fun _ => rfl, fun h => absurd h (by decide)⟩, ⟨⟨RX1, TX1, 12, tyX1, rfl, by decide, inW1, tyX1_ok, nmX1, Or.inl u_535, fun _ => rfl, fun _ => rfl, fun h => absurd h (by decide)⟩, ⟨⟨RX1, TX1, 12, tyX1, rfl, by decide, inW1, tyX1_ok, nmX1, Or.inl u_534, fun h => absurd h (by decide), fun h => absurd h (by decide), fun h => absurd h (by decide)⟩, ⟨⟨RX1, TX1, 12, tyX1, rfl, by decide, inW1, tyX1_ok, nmX1, Or.inl u_533, fun h => absurd h (by decide), fun h => absurd h (by decide), fun h => absurd h (by decide)⟩, ⟨⟨RX1, TX1, 12, tyX1, rfl, by decide, inW1, tyX1_ok, nmX1, Or.inl u_532, fun h => absurd h (by decide), fun h => absurd h (by decide), fun h => absurd h (by decide)⟩, ⟨⟨RX1, TX1, 12, tyX1, rfl, by decide, inW1, tyX1_ok, nmX1, Or.inl u_531, fun _ => rfl, fun _ => rfl, fun h => absurd h (by decide)⟩, ⟨⟨RX1, TX1, 12, tyX1, rfl, by decide, inW1, tyX1_ok, nmX1, Or.inl u_530, fun h => absurd h (by decide), fun h => absurd h (by decide), fun h => absurd h (by decide)⟩, ⟨⟨RX1, TX1, 12, tyX1, rfl, by decide, inW1, tyX1_ok, nmX1, Or.inl u_529, fun h => absurd h (by decide), fun h => absurd h (by decide), fun h => absurd h (by decide)⟩, ⟨⟨RX1, TX1, 12, tyX1, rfl, by decide, inW1, tyX1_ok, nmX1, Or.inl u_528, fun h => absurd h (by decide), fun h => absurd h (by decide), fun h => absurd h (by decide)⟩, ⟨⟨RX1, TX1, 12, tyX1, rfl, by decide, inW1, tyX1_ok, nmX1, Or.inl u_527, fun h => absurd h (by decide), fun h => absurd h (by decide), fun h => absurd h (by decide)⟩, ⟨⟨RX1, TX1, 12, tyX1, rfl, by decide, inW1, tyX1_ok, nmX1, Or.inl u_526, fun h => absurd h (by decide), fun h => absurd h (by decide), fun h => absurd h (by decide)⟩, ⟨⟨RX1, TX1, 12, tyX1, rfl, by decide, inW1, tyX1_ok, nmX1, Or.inl u_525, fun h => absurd h (by decide), fun h => absurd h (by decide), fun h => absurd h (by decide)⟩, trivial⟩⟩⟩⟩⟩⟩⟩⟩⟩⟩⟩⟩
def cnX1 : Cns := [(55, .int (99999999)), (81, .int (999999))]
theorem cnX1_ok : ∀ ix v, cnX1.lookup ix = some v → CnOK RX1 ix v := allN_ok ⟨u_538, ⟨u_537, trivial⟩⟩
def flX2 : Fls := [(9, 2, 0, 2), (15, 2, 1, 0)]
theorem flX2_ok : ∀ ix ci fk kd, flX2.lookup ix = some (ci, fk, kd) → FlOK RX2 ix ci fk kd := allF_ok ⟨⟨RX2, TX2, 2, tyX2, rfl, by decide, inW2, tyX2_ok, nmX2, Or.inl u_540, fun h => absurd h (by decide), fun h => absurd h (by decide), fun h => absurd h (by decide)⟩, ⟨⟨RX2, TX2, 2, tyX2, rfl, by decide, inW2, tyX2_ok, nmX2, Or.inl u_539, fun _ => rfl, fun _ => rfl, fun h => absurd h (by decide)⟩, trivial⟩⟩
def cnX2 : Cns := []
theorem cnX2_ok : ∀ ix v, cnX2.lookup ix = some v → CnOK RX2 ix v := allN_ok trivial
def flX3 : Fls := [(12, 3, 0, 2), (18, 3, 1, 0), (22, 3, 2, 0), (25, 3, 3, 0), (28, 3, 4, 0), (77, 1, 3, 2), (82, 1, 4, 2), (84, 1, 2, 2), (86, 2, 1, 0), (89, 2, 0, 2)]
theorem flX3_ok : ∀ ix ci fk kd, flX3.lookup ix = some (ci, fk, kd) → FlOK RX3 ix ci fk kd := allF_ok ⟨⟨RX3, TX3, 5, tyX3, rfl, by decide, inW3, tyX3_ok, nmX3, Or.inl u_545, fun h => absurd h (by decide), fun h => absurd h (by decide), fun h => absurd h (by decide)⟩, ⟨⟨RX3, TX3, 5, tyX3, rfl, by decide, inW3, tyX3_ok, nmX3, Or.inl u_544, fun _ => rfl, fun _ => rfl, fun h => absurd h (by decide)⟩, ⟨⟨RX3, TX3, 5, tyX3, rfl, by decide, inW3, tyX3_ok, nmX3, Or.inl u_543, fun _ => rfl, fun _ => rfl, fun h => absurd h (by decide)⟩, ⟨⟨RX3, TX3, 5, tyX3, rfl, by decide, inW3, tyX3_ok, nmX3, Or.inl u_542, fun _ => rfl, fun _ => rfl, fun h => absurd h (by decide)⟩, ⟨⟨RX3, TX3, 5, tyX3, rfl, by decide, inW3, tyX3_ok, nmX3, Or.inl u_541, fun _ => rfl, fun _ => rfl, fun h => absurd h (by decide)⟩, ⟨⟨RX1, TX1, 12, tyX1, rfl, by decide, inW1, tyX1_ok, nmX1, Or.inr (List.mem_of_getElem? (i := 5) rfl), fun h => absurd h (by decide), fun h => absurd h (by decide), fun h => absurd h (by decide)⟩, ⟨⟨RX1, TX1, 12, tyX1, rfl, by decide, inW1, tyX1_ok, nmX1, Or.inr (List.mem_of_getElem? (i := 7) rfl), fun h => absurd h (by decide), fun h => absurd h (by decide), fun h => absurd h (by decide)⟩, ⟨⟨RX1, TX1, 12, tyX1, rfl, by decide, inW1, tyX1_ok, nmX1, Or.inr (List.mem_of_getElem? (i := 3) rfl), fun h => absurd h (by decide), fun h => absurd h (by decide), fun h => absurd h (by decide)⟩, ⟨⟨RX2, TX2, 2, tyX2, rfl, by decide, inW2, tyX2_ok, nmX2, Or.inr (List.mem_of_getElem? (i := 16) rfl), fun _ => rfl, fun _ => rfl, fun h => absurd h (by decide)⟩, ⟨⟨RX2, TX2, 2, tyX2, rfl, by decide, inW2, tyX2_ok, nmX2, Or.inr (List.mem_of_getElem? (i := 15) rfl), fun h => absurd h (by decide), fun h => absurd h (by decide), fun h => absurd h (by decide)⟩, trivial⟩⟩⟩⟩⟩⟩⟩⟩⟩⟩
def cnX3 : Cns := [(34, .ref (1000)), (57, .ref (1010)), (63, .ref (1011)), (65, .ref (1012)), (75, .ref (1001)), (80, .ref (1002)), (114, .ref (1003)), (116, .ref (1004)), (118, .ref (1005)), (120, .ref (1006)), (122, .ref (1007)), (124, .ref (1008)), (126, .ref (1009))]
theorem cnX3_ok : ∀ ix v, cnX3.lookup ix = some v → CnOK RX3 ix v := allN_ok ⟨⟨rfl, 0, by decide, rfl, rfl⟩, ⟨⟨rfl, 10, by decide, rfl, rfl⟩, ⟨⟨rfl, 11, by decide, rfl, rfl⟩, ⟨⟨rfl, 12, by decide, rfl, rfl⟩, ⟨⟨rfl, 1, by decide, rfl, rfl⟩, ⟨⟨rfl, 2, by decide, rfl, rfl⟩, ⟨⟨rfl, 3, by decide, rfl, rfl⟩, ⟨⟨rfl, 4, by decide, rfl, rfl⟩, ⟨⟨rfl, 5, by decide, rfl, rfl⟩, ⟨⟨rfl, 6, by decide, rfl, rfl⟩, ⟨⟨rfl, 7, by decide, rfl, rfl⟩, ⟨⟨rfl, 8, by decide, rfl, rfl⟩, ⟨⟨rfl, 9, by decide, rfl, rfl⟩, trivial⟩⟩⟩⟩⟩⟩⟩⟩⟩⟩⟩⟩⟩
def flX4 : Fls := [(12, 4, 0, 2), (16, 4, 1, 2), (19, 4, 2, 2), (22, 4, 3, 1), (29, 4, 5, 2), (37, 4, 4, 2), (40, 4, 6, 2), (45, 4, 7, 2), (65, 1, 2, 2), (68, 1, 3, 2), (71, 1, 4, 2), (74, 1, 7, 2), (81, 1, 11, 2), (99, 1, 6, 2), (102, 1, 8, 2), (105, 1, 9, 2), (108, 1, 10, 2), (143, 1, 0, 0), (151, 1, 1, 0), (184, 1, 5, 0), (187, 2, 1, 0), (212, 0, 1, 0), (217, 0, 2, 2), (225, 0, 0, 0)]
theorem flX4_ok : ∀ ix ci fk kd, flX4.lookup ix = some (ci, fk, kd) → FlOK RX4 ix ci fk kd := allF_ok ⟨⟨RX4, TX4, 8, tyX4, rfl, by decide, inW4, tyX4_ok, nmX4, Or.inl u_553, fun h => absurd h (by decide), fun h => absurd h (by decide), fun h => absurd h (by decide)⟩, ⟨⟨RX4, TX4, 8, tyX4, rfl, by decide, inW4, tyX4_ok, nmX4, Or.inl u_552, fun h => absurd h (by decide), fun h => absurd h (by decide), fun h => absurd h (by decide)⟩, ⟨⟨RX4, TX4, 8, tyX4, rfl, by decide, inW4, tyX4_ok, nmX4, Or.inl u_551, fun h => absurd h (by decide), fun h => absurd h (by decide), fun h => absurd h (by decide)⟩, ⟨⟨RX4, TX4, 8, tyX4, rfl, by decide, inW4, tyX4_ok, nmX4, Or.inl u_550, fun _ => rfl, fun h => absurd h (by decide), fun _ => rfl⟩, ⟨⟨RX4, TX4, 8, tyX4, rfl, by decide, inW4, tyX4_ok, nmX4, Or.inl u_549, fun h => absurd h (by decide), fun h => absurd h (by decide), fun h => absurd h (by decide)⟩, ⟨⟨RX4, TX4, 8, tyX4, rfl, by decide, inW4, tyX4_ok, nmX4, Or.inl u_548, fun h => absurd h (by decide), fun h => absurd h (by decide), fun h => absurd h (by decide)⟩, ⟨⟨RX4, TX4, 8, tyX4, rfl, by decide, inW4, tyX4_ok, nmX4, Or.inl u_547, fun h => absurd h (by decide), fun h => absurd h (by decide), fun h => absurd h (by decide)⟩, ⟨⟨RX4, TX4, 8, tyX4, rfl, by decide, inW4, tyX4_ok, nmX4, Or.inl u_546, fun h => absurd h (by decide), fun h => absurd h (by decide), fun h => absurd h (by decide)⟩, ⟨⟨RX1, TX1, 12, tyX1, rfl, by decide, inW1, tyX1_ok, nmX1, Or.inr (List.mem_of_getElem? (i := 2) rfl), fun h => absurd h (by decide), fun h => absurd h (by decide), fun h => absurd h (by decide)⟩, ⟨⟨RX1, TX1, 12, tyX1, rfl, by decide, inW1, tyX1_ok, nmX1, Or.inr (List.mem_of_getElem? (i := 4) rfl), fun h => absurd h (by decide), fun h => absurd h (by decide), fun h => absurd h (by decide)⟩, ⟨⟨RX1, TX1, 12, tyX1, rfl, by decide, inW1, tyX1_ok, nmX1, Or.inr (List.mem_of_getElem? (i := 6) rfl), fun h => absurd h (by decide), fun h => absurd h (by decide), fun h => absurd h (by decide)⟩, ⟨⟨RX1, TX1, 12, tyX1, rfl, by decide, inW1, tyX1_ok, nmX1, Or.inr (List.mem_of_getElem? (i := 10) rfl), fun h => absurd h (by decide), fun h => absurd h (by decide), fun h => absurd h (by decide)⟩, ⟨⟨RX1, TX1, 12, tyX1, rfl, by decide, inW1, tyX1_ok, nmX1, Or.inr (List.mem_of_getElem? (i := 14) rfl), fun h => absurd h (by decide), fun h => absurd h (by decide), fun h => absurd h (by decide)⟩, ⟨⟨RX1, TX1, 12, tyX1, rfl, by decide, inW1, tyX1_ok, nmX1, Or.inr (List.mem_of_getElem? (i := 9) rfl), fun h => absurd h (by decide), fun h => absurd h (by decide), fun h => absurd h (by decide)⟩, ⟨⟨RX1, TX1, 12, tyX1, rfl, by decide, inW1, tyX1_ok, nmX1, Or.inr (List.mem_of_getElem? (i := 11) rfl), fun h => absurd h (by decide), fun h => absurd h (by decide), fun h => absurd h (by decide)⟩, ⟨⟨RX1, TX1, 12, tyX1, rfl, by decide, inW1, tyX1_ok, nmX1, Or.inr (List.mem_of_getElem? (i := 12) rfl), fun h => absurd h (by decide), fun h => absurd h (by decide), fun h => absurd h (by decide)⟩, ⟨⟨RX1, TX1, 12, tyX1, rfl, by decide, inW1, tyX1_ok, nmX1, Or.inr (List.mem_of_getElem? (i := 13) rfl), fun h => absurd h (by decide), fun h => absurd h (by decide), fun h => absurd h (by decide)⟩, ⟨⟨RX1, TX1, 12, tyX1, rfl, by decide, inW1, tyX1_ok, nmX1, Or.inr (List.mem_of_getElem? (i := 0) rfl), fun _ => rfl, fun _ => rfl, fun h => absurd h (by decide)⟩, ⟨⟨RX1, TX1, 12, tyX1, rfl, by decide, inW1, tyX1_ok, nmX1, Or.inr (List.mem_of_getElem? (i := 1) rfl), fun _ => rfl, fun _ => rfl, fun h => absurd h (by decide)⟩, ⟨⟨RX1, TX1, 12, tyX1, rfl, by decide, inW1, tyX1_ok, nmX1, Or.inr (List.mem_of_getElem? (i := 8) rfl), fun _ => rfl, fun _ => rfl, fun h => absurd h (by decide)⟩, ⟨⟨RX2, TX2, 2, tyX2, rfl, by decide, inW2, tyX2_ok, nmX2, Or.inr (List.mem_of_getElem? (i := 17) rfl), fun _ => rfl, fun _ => rfl, fun h => absurd h (by decide)⟩, ⟨⟨RX0, TX0, 3, tyX0, rfl, by decide, inW0, tyX0_ok, nmX0, Or.inr (List.mem_of_getElem? (i := 20) rfl), fun _ => rfl, fun _ => rfl, fun h => absurd h (by decide)⟩, ⟨⟨RX0, TX0, 3, tyX0, rfl, by decide, inW0, tyX0_ok, nmX0, Or.inr (List.mem_of_getElem? (i := 21) rfl), fun h => absurd h (by decide), fun h => absurd h (by decide), fun h => absurd h (by decide)⟩, ⟨⟨RX0, TX0, 3, tyX0, rfl, by decide, inW0, tyX0_ok, nmX0, Or.inr (List.mem_of_getElem? (i := 19) rfl), fun _ => rfl, fun _ => rfl, fun h => absurd h (by decide)⟩, trivial⟩⟩⟩⟩⟩⟩⟩⟩⟩⟩⟩⟩⟩⟩⟩⟩⟩⟩⟩⟩⟩⟩⟩⟩
def cnX4 : Cns := [(61, .int (-1000000001)), (91, .int (-1000000002)), (124, .int (-1000000003)), (132, .int (-1000000005)), (180, .int (-1000000004)), (207, .int (-1000000007)), (216, .int (-1000000006)), (237, .long (999999)), (252, .int (999999))]
theorem cnX4_ok : ∀ ix v, cnX4.lookup ix = some v → CnOK RX4 ix v := allN_ok ⟨u_562, ⟨u_561, ⟨u_560, ⟨u_559, ⟨u_558, ⟨u_557, ⟨u_556, ⟨u_555, ⟨u_554, trivial⟩⟩⟩⟩⟩⟩⟩⟩⟩
def flX5 : Fls := [(7, 5, 0, 2), (13, 5, 1, 2), (16, 5, 2, 2), (19, 5, 3, 2), (22, 5, 4, 2), (25, 5, 6, 2), (28, 5, 12, 2), (31, 5, 13, 2), (34, 5, 14, 2), (38, 5, 15, 2), (199, 5, 7, 0), (211, 5, 9, 0), (214, 5, 8, 0), (226, 5, 11, 1), (237, 5, 10, 0), (318, 5, 5, 1)]
theorem flX5_ok : ∀ ix ci fk kd, flX5.lookup ix = some (ci, fk, kd) → FlOK RX5 ix ci fk kd := allF_ok ⟨⟨RX5, TX5, 16, tyX5, rfl, by decide, inW5, tyX5_ok, nmX5, Or.inl u_578, fun h => absurd h (by decide), fun h => absurd h (by decide), fun h => absurd h (by decide)⟩, ⟨⟨RX5, TX5, 16, tyX5, rfl, by decide, inW5, tyX5_ok, nmX5, Or.inl u_577, fun h => absurd h (by decide), fun h => absurd h (by decide), fun h => absurd h (by decide)⟩, ⟨⟨RX5, TX5, 16, tyX5, rfl, by decide, inW5, tyX5_ok, nmX5, Or.inl u_576, fun h => absurd h (by decide), fun h => absurd h (by decide), fun h => absurd h (by decide)⟩, ⟨⟨RX5, TX5, 16, tyX5, rfl, by decide, inW5, tyX5_ok, nmX5, Or.inl u_575, fun h => absurd h (by decide), fun h => absurd h (by decide), fun h => absurd h (by decide)⟩, ⟨⟨RX5, TX5, 16, tyX5, rfl, by decide, inW5, tyX5_ok, nmX5, Or.inl u_574, fun h => absurd h (by decide), fun h => absurd h (by decide), fun h => absurd h (by decide)⟩, ⟨⟨RX5, TX5, 16, tyX5, rfl, by decide, inW5, tyX5_ok, nmX5, Or.inl u_573, fun h => absurd h (by decide), fun h => absurd h (by decide), fun h => absurd h (by decide)⟩, ⟨⟨RX5, TX5, 16, tyX5, rfl, by decide, inW5, tyX5_ok, nmX5, Or.inl u_572, fun h => absurd h (by decide), fun h => absurd h (by decide), fun h => absurd h (by decide)⟩, ⟨⟨RX5, TX5, 16, tyX5, rfl, by decide, inW5, tyX5_ok, nmX5, Or.inl u_571, fun h => absurd h (by decide), fun h => absurd h (by decide), fun h => absurd h (by decide)⟩, ⟨⟨RX5, TX5, 16, tyX5, rfl, by decide, inW5, tyX5_ok, nmX5, Or.inl u_570, fun h => absurd h (by decide), fun h => absurd h (by decide), fun h => absurd h (by decide)⟩, ⟨⟨RX5, TX5, 16, tyX5, rfl, by decide, inW5, tyX5_ok, nmX5, Or.inl u_569, fun h => absurd h (by decide), fun h => absurd h (by decide), fun h => absurd h (by decide)⟩, ⟨⟨RX5, TX5, 16, tyX5, rfl, by decide, inW5, tyX5_ok, nmX5, Or.inl u_568, fun _ => rfl, fun _ => rfl, fun h => absurd h (by decide)⟩, ⟨⟨RX5, TX5, 16, tyX5, rfl, by decide, inW5, tyX5_ok, nmX5, Or.inl u_567, fun _ => rfl, fun _ => rfl, fun h => absurd h (by decide)⟩, ⟨⟨RX5, TX5, 16, tyX5, rfl, by decide, inW5, tyX5_ok, nmX5, Or.inl u_566, fun _ => rfl, fun _ => rfl, fun h => absurd h (by decide)⟩, ⟨⟨RX5, TX5, 16, tyX5, rfl, by decide, inW5, tyX5_ok, nmX5, Or.inl u_565, fun _ => rfl, fun h => absurd h (by decide), fun _ => rfl⟩, ⟨⟨RX5, TX5, 16, tyX5, rfl, by decide, inW5, tyX5_ok, nmX5, Or.inl u_564, fun _ => rfl, fun _ => rfl, fun h => absurd h (by decide)⟩, ⟨⟨RX5, TX5, 16, tyX5, rfl, by decide, inW5, tyX5_ok, nmX5, Or.inl u_563, fun _ => rfl, fun h => absurd h (by decide), fun _ => rfl⟩, trivial⟩⟩⟩⟩⟩⟩⟩⟩⟩⟩⟩⟩⟩⟩⟩⟩
def cnX5 : Cns := [(45, .int (-1000000001)), (46, .long (5)), (55, .long (2)), (57, .long (999999)), (59, .long (999)), (75, .long (4)), (86, .int (-1000000002)), (99, .long (7)), (107, .long (9999)), (116, .int (-1000000003)), (120, .int (99999999)), (134, .int (-1000000005)), (135, .int (999999)), (152, .long (100)), (179, .int (-1000000004)), (187, .long (60)), (203, .long (97)), (205, .long (122)), (207, .long (48)), (209, .long (57)), (233, .long (36028797018963967)), (235, .long (32)), (248, .long (538512556)), (250, .long (394393)), (252, .long (7749317)), (254, .long (624088749524)), (256, .long (763077)), (258, .long (270141944)), (264, .long (6642)), (270, .long (4773)), (272, .long (24627848)), (274, .long (5294547)), (276, .long (654489747)), (284, .long (13796819)), (298, .long (3)), (303, .int (-1000000007)), (304, .int (-1000000006)), (324, .long (-1)), (326, .long (6))]
theorem cnX5_ok : ∀ ix v, cnX5.lookup ix = some v → CnOK RX5 ix v := allN_ok ⟨u_617, ⟨u_616, ⟨u_615, ⟨u_614, ⟨u_613, ⟨u_612, ⟨u_611, ⟨u_610, ⟨u_609, ⟨u_608, ⟨u_607, ⟨u_606, ⟨u_605, ⟨u_604, ⟨u_603, ⟨u_602, ⟨u_601, ⟨u_600, ⟨u_599, ⟨u_598, ⟨u_597, ⟨u_596, ⟨u_595, ⟨u_594, ⟨u_593, ⟨u_592, ⟨u_591, ⟨u_590, ⟨u_589, ⟨u_588, ⟨u_587, ⟨u_586, ⟨u_585, ⟨u_584, ⟨u_583, ⟨u_582, ⟨u_581, ⟨u_580, ⟨u_579, trivial⟩⟩⟩⟩⟩⟩⟩⟩⟩⟩⟩⟩⟩⟩⟩⟩⟩⟩⟩⟩⟩⟩⟩⟩⟩⟩⟩⟩⟩⟩⟩⟩⟩⟩⟩⟩⟩⟩⟩
def flJ6 : Fls := []
theorem flJ6_ok : ∀ ix ci fk kd, flJ6.lookup ix = some (ci, fk, kd) → FlOK RJ6 ix ci fk kd := allF_ok trivial
def cnJ6 : Cns := [(265, .int (1431655765)), (266, .int (858993459)), (267, .int (252645135))]
theorem cnJ6_ok : ∀ ix v, cnJ6.lookup ix = some v → CnOK RJ6 ix v := allN_ok ⟨u_620, ⟨u_619, ⟨u_618, trivial⟩⟩⟩
