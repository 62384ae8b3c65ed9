theorem d_law_373 : decode code 373 = .ok (.iadd, 1) := by decide +kernel
theorem d_law_374 : decode code 374 = .ok (.iaload, 1) := by decide +kernel
theorem d_law_375 : decode code 375 = .ok (.aload_n 0, 1) := by decide +kernel
theorem d_law_376 : decode code 376 = .ok (.iload_n 3, 1) := by decide +kernel
theorem d_law_377 : decode code 377 = .ok (.iconst 3, 1) := by decide +kernel
theorem d_law_378 : decode code 378 = .ok (.iadd, 1) := by decide +kernel
theorem d_law_379 : decode code 379 = .ok (.iaload, 1) := by decide +kernel
theorem d_law_380 : decode code 380 = .ok (.invokevirtual 42, 3) := by decide +kernel
theorem d_law_383 : decode code 383 = .ok (.if_icmp .eq 737, 3) := by decide +kernel
theorem d_law_386 : decode code 386 = .ok (.iconst 0, 1) := by decide +kernel
theorem d_law_387 : decode code 387 = .ok (.ireturn, 1) := by decide +kernel
theorem d_law_388 : decode code 388 = .ok (.aload_n 1, 1) := by decide +kernel
theorem d_law_389 : decode code 389 = .ok (.aload_n 0, 1) := by decide +kernel
theorem d_law_390 : decode code 390 = .ok (.iload_n 3, 1) := by decide +kernel
theorem d_law_391 : decode code 391 = .ok (.iconst 1, 1) := by decide +kernel
theorem d_law_392 : decode code 392 = .ok (.iadd, 1) := by decide +kernel
theorem d_law_393 : decode code 393 = .ok (.iaload, 1) := by decide +kernel
theorem d_law_394 : decode code 394 = .ok (.aload_n 0, 1) := by decide +kernel
theorem d_law_395 : decode code 395 = .ok (.iload_n 3, 1) := by decide +kernel
theorem d_law_396 : decode code 396 = .ok (.iconst 2, 1) := by decide +kernel
theorem d_law_397 : decode code 397 = .ok (.iadd, 1) := by decide +kernel
theorem d_law_398 : decode code 398 = .ok (.iaload, 1) := by decide +kernel
theorem d_law_399 : decode code 399 = .ok (.invokevirtual 43, 3) := by decide +kernel
theorem d_law_402 : decode code 402 = .ok (.aload_n 2, 1) := by decide +kernel
theorem d_law_403 : decode code 403 = .ok (.aload_n 0, 1) := by decide +kernel
theorem d_law_404 : decode code 404 = .ok (.iload_n 3, 1) := by decide +kernel
theorem d_law_405 : decode code 405 = .ok (.iconst 1, 1) := by decide +kernel
theorem d_law_406 : decode code 406 = .ok (.iadd, 1) := by decide +kernel
theorem d_law_407 : decode code 407 = .ok (.iaload, 1) := by decide +kernel
theorem d_law_408 : decode code 408 = .ok (.aload_n 0, 1) := by decide +kernel
theorem d_law_409 : decode code 409 = .ok (.iload_n 3, 1) := by decide +kernel
theorem d_law_410 : decode code 410 = .ok (.iconst 2, 1) := by decide +kernel
theorem d_law_411 : decode code 411 = .ok (.iadd, 1) := by decide +kernel
theorem d_law_412 : decode code 412 = .ok (.iaload, 1) := by decide +kernel
theorem d_law_413 : decode code 413 = .ok (.invokevirtual 46, 3) := by decide +kernel
theorem d_law_416 : decode code 416 = .ok (.if_icmp .eq 704, 3) := by decide +kernel
theorem d_law_419 : decode code 419 = .ok (.iconst 0, 1) := by decide +kernel
theorem d_law_420 : decode code 420 = .ok (.ireturn, 1) := by decide +kernel
theorem d_law_421 : decode code 421 = .ok (.aload_n 1, 1) := by decide +kernel
theorem d_law_422 : decode code 422 = .ok (.aload_n 0, 1) := by decide +kernel
theorem d_law_423 : decode code 423 = .ok (.iload_n 3, 1) := by decide +kernel
theorem d_law_424 : decode code 424 = .ok (.iconst 1, 1) := by decide +kernel
theorem d_law_425 : decode code 425 = .ok (.iadd, 1) := by decide +kernel
theorem d_law_426 : decode code 426 = .ok (.iaload, 1) := by decide +kernel
theorem d_law_427 : decode code 427 = .ok (.aload_n 0, 1) := by decide +kernel
theorem d_law_428 : decode code 428 = .ok (.iload_n 3, 1) := by decide +kernel
theorem d_law_429 : decode code 429 = .ok (.iconst 2, 1) := by decide +kernel
theorem d_law_430 : decode code 430 = .ok (.iadd, 1) := by decide +kernel
theorem d_law_431 : decode code 431 = .ok (.iaload, 1) := by decide +kernel
theorem d_law_432 : decode code 432 = .ok (.invokevirtual 47, 3) := by decide +kernel
theorem d_law_435 : decode code 435 = .ok (.aload_n 2, 1) := by decide +kernel
theorem d_law_436 : decode code 436 = .ok (.aload_n 0, 1) := by decide +kernel
theorem d_law_437 : decode code 437 = .ok (.iload_n 3, 1) := by decide +kernel
theorem d_law_438 : decode code 438 = .ok (.iconst 1, 1) := by decide +kernel
theorem d_law_439 : decode code 439 = .ok (.iadd, 1) := by decide +kernel
theorem d_law_440 : decode code 440 = .ok (.iaload, 1) := by decide +kernel
theorem d_law_441 : decode code 441 = .ok (.aload_n 0, 1) := by decide +kernel
theorem d_law_442 : decode code 442 = .ok (.iload_n 3, 1) := by decide +kernel
theorem d_law_443 : decode code 443 = .ok (.iconst 2, 1) := by decide +kernel
theorem d_law_444 : decode code 444 = .ok (.iadd, 1) := by decide +kernel
theorem d_law_445 : decode code 445 = .ok (.iaload, 1) := by decide +kernel
theorem d_law_446 : decode code 446 = .ok (.invokevirtual 50, 3) := by decide +kernel
theorem d_law_449 : decode code 449 = .ok (.if_icmp .eq 671, 3) := by decide +kernel
theorem d_law_452 : decode code 452 = .ok (.iconst 0, 1) := by decide +kernel
theorem d_law_453 : decode code 453 = .ok (.ireturn, 1) := by decide +kernel
theorem d_law_454 : decode code 454 = .ok (.aload_n 1, 1) := by decide +kernel
theorem d_law_455 : decode code 455 = .ok (.aload_n 0, 1) := by decide +kernel
theorem d_law_456 : decode code 456 = .ok (.iload_n 3, 1) := by decide +kernel
theorem d_law_457 : decode code 457 = .ok (.iconst 1, 1) := by decide +kernel
theorem d_law_458 : decode code 458 = .ok (.iadd, 1) := by decide +kernel
theorem d_law_459 : decode code 459 = .ok (.iaload, 1) := by decide +kernel
theorem d_law_460 : decode code 460 = .ok (.aload_n 0, 1) := by decide +kernel
theorem d_law_461 : decode code 461 = .ok (.iload_n 3, 1) := by decide +kernel
theorem d_law_462 : decode code 462 = .ok (.iconst 2, 1) := by decide +kernel
theorem d_law_463 : decode code 463 = .ok (.iadd, 1) := by decide +kernel
theorem d_law_464 : decode code 464 = .ok (.iaload, 1) := by decide +kernel
theorem d_law_465 : decode code 465 = .ok (.invokevirtual 51, 3) := by decide +kernel
theorem d_law_468 : decode code 468 = .ok (.aload_n 2, 1) := by decide +kernel
theorem d_law_469 : decode code 469 = .ok (.aload_n 0, 1) := by decide +kernel
theorem d_law_470 : decode code 470 = .ok (.iload_n 3, 1) := by decide +kernel
theorem d_law_471 : decode code 471 = .ok (.iconst 1, 1) := by decide +kernel
theorem d_law_472 : decode code 472 = .ok (.iadd, 1) := by decide +kernel
theorem d_law_473 : decode code 473 = .ok (.iaload, 1) := by decide +kernel
theorem d_law_474 : decode code 474 = .ok (.aload_n 0, 1) := by decide +kernel
theorem d_law_475 : decode code 475 = .ok (.iload_n 3, 1) := by decide +kernel
theorem d_law_476 : decode code 476 = .ok (.iconst 2, 1) := by decide +kernel
theorem d_law_477 : decode code 477 = .ok (.iadd, 1) := by decide +kernel
theorem d_law_478 : decode code 478 = .ok (.iaload, 1) := by decide +kernel
theorem d_law_479 : decode code 479 = .ok (.invokevirtual 54, 3) := by decide +kernel
theorem d_law_482 : decode code 482 = .ok (.if_icmp .eq 638, 3) := by decide +kernel
theorem d_law_485 : decode code 485 = .ok (.iconst 0, 1) := by decide +kernel
theorem d_law_486 : decode code 486 = .ok (.ireturn, 1) := by decide +kernel
theorem d_law_487 : decode code 487 = .ok (.aload_n 1, 1) := by decide +kernel
theorem d_law_488 : decode code 488 = .ok (.aload_n 0, 1) := by decide +kernel
theorem d_law_489 : decode code 489 = .ok (.iload_n 3, 1) := by decide +kernel
theorem d_law_490 : decode code 490 = .ok (.iconst 1, 1) := by decide +kernel
theorem d_law_491 : decode code 491 = .ok (.iadd, 1) := by decide +kernel
theorem d_law_492 : decode code 492 = .ok (.iaload, 1) := by decide +kernel
theorem d_law_493 : decode code 493 = .ok (.aload_n 0, 1) := by decide +kernel
theorem d_law_494 : decode code 494 = .ok (.iload_n 3, 1) := by decide +kernel
theorem d_law_495 : decode code 495 = .ok (.iconst 2, 1) := by decide +kernel
theorem d_law_496 : decode code 496 = .ok (.iadd, 1) := by decide +kernel
theorem d_law_497 : decode code 497 = .ok (.iaload, 1) := by decide +kernel
theorem d_law_498 : decode code 498 = .ok (.invokevirtual 55, 3) := by decide +kernel
theorem d_law_501 : decode code 501 = .ok (.aload_n 2, 1) := by decide +kernel
theorem d_law_502 : decode code 502 = .ok (.aload_n 0, 1) := by decide +kernel
theorem d_law_503 : decode code 503 = .ok (.iload_n 3, 1) := by decide +kernel
theorem d_law_504 : decode code 504 = .ok (.iconst 1, 1) := by decide +kernel
theorem d_law_505 : decode code 505 = .ok (.iadd, 1) := by decide +kernel
theorem d_law_506 : decode code 506 = .ok (.iaload, 1) := by decide +kernel
theorem d_law_507 : decode code 507 = .ok (.aload_n 0, 1) := by decide +kernel
theorem d_law_508 : decode code 508 = .ok (.iload_n 3, 1) := by decide +kernel
theorem d_law_509 : decode code 509 = .ok (.iconst 2, 1) := by decide +kernel
theorem d_law_510 : decode code 510 = .ok (.iadd, 1) := by decide +kernel
theorem d_law_511 : decode code 511 = .ok (.iaload, 1) := by decide +kernel
theorem d_law_512 : decode code 512 = .ok (.invokevirtual 58, 3) := by decide +kernel
theorem d_law_515 : decode code 515 = .ok (.if_icmp .eq 605, 3) := by decide +kernel
theorem d_law_518 : decode code 518 = .ok (.iconst 0, 1) := by decide +kernel
theorem d_law_519 : decode code 519 = .ok (.ireturn, 1) := by decide +kernel
theorem d_law_520 : decode code 520 = .ok (.aload_n 1, 1) := by decide +kernel
theorem d_law_521 : decode code 521 = .ok (.aload_n 0, 1) := by decide +kernel
theorem d_law_522 : decode code 522 = .ok (.iload_n 3, 1) := by decide +kernel
theorem d_law_523 : decode code 523 = .ok (.iconst 1, 1) := by decide +kernel
theorem d_law_524 : decode code 524 = .ok (.iadd, 1) := by decide +kernel
theorem d_law_525 : decode code 525 = .ok (.iaload, 1) := by decide +kernel
theorem d_law_526 : decode code 526 = .ok (.aload_n 0, 1) := by decide +kernel
theorem d_law_527 : decode code 527 = .ok (.iload_n 3, 1) := by decide +kernel
theorem d_law_528 : decode code 528 = .ok (.iconst 2, 1) := by decide +kernel
theorem d_law_529 : decode code 529 = .ok (.iadd, 1) := by decide +kernel
theorem d_law_530 : decode code 530 = .ok (.iaload, 1) := by decide +kernel
theorem d_law_531 : decode code 531 = .ok (.invokevirtual 59, 3) := by decide +kernel
theorem d_law_534 : decode code 534 = .ok (.aload_n 2, 1) := by decide +kernel
theorem d_law_535 : decode code 535 = .ok (.aload_n 0, 1) := by decide +kernel
theorem d_law_536 : decode code 536 = .ok (.iload_n 3, 1) := by decide +kernel
theorem d_law_537 : decode code 537 = .ok (.iconst 1, 1) := by decide +kernel
theorem d_law_538 : decode code 538 = .ok (.iadd, 1) := by decide +kernel
theorem d_law_539 : decode code 539 = .ok (.iaload, 1) := by decide +kernel
theorem d_law_540 : decode code 540 = .ok (.aload_n 0, 1) := by decide +kernel
theorem d_law_541 : decode code 541 = .ok (.iload_n 3, 1) := by decide +kernel
theorem d_law_542 : decode code 542 = .ok (.iconst 2, 1) := by decide +kernel
theorem d_law_543 : decode code 543 = .ok (.iadd, 1) := by decide +kernel
theorem d_law_544 : decode code 544 = .ok (.iaload, 1) := by decide +kernel
theorem d_law_545 : decode code 545 = .ok (.invokevirtual 62, 3) := by decide +kernel
theorem d_law_548 : decode code 548 = .ok (.if_icmp .eq 572, 3) := by decide +kernel
theorem d_law_551 : decode code 551 = .ok (.iconst 0, 1) := by decide +kernel
theorem d_law_552 : decode code 552 = .ok (.ireturn, 1) := by decide +kernel
theorem d_law_553 : decode code 553 = .ok (.aload_n 1, 1) := by decide +kernel
theorem d_law_554 : decode code 554 = .ok (.aload_n 0, 1) := by decide +kernel
theorem d_law_555 : decode code 555 = .ok (.iload_n 3, 1) := by decide +kernel
theorem d_law_556 : decode code 556 = .ok (.iconst 1, 1) := by decide +kernel
theorem d_law_557 : decode code 557 = .ok (.iadd, 1) := by decide +kernel
theorem d_law_558 : decode code 558 = .ok (.iaload, 1) := by decide +kernel
theorem d_law_559 : decode code 559 = .ok (.aload_n 0, 1) := by decide +kernel
theorem d_law_560 : decode code 560 = .ok (.iload_n 3, 1) := by decide +kernel
theorem d_law_561 : decode code 561 = .ok (.iconst 2, 1) := by decide +kernel
theorem d_law_562 : decode code 562 = .ok (.iadd, 1) := by decide +kernel
theorem d_law_563 : decode code 563 = .ok (.iaload, 1) := by decide +kernel
theorem d_law_564 : decode code 564 = .ok (.invokevirtual 63, 3) := by decide +kernel
theorem d_law_567 : decode code 567 = .ok (.aload_n 2, 1) := by decide +kernel
theorem d_law_568 : decode code 568 = .ok (.aload_n 0, 1) := by decide +kernel
theorem d_law_569 : decode code 569 = .ok (.iload_n 3, 1) := by decide +kernel
theorem d_law_570 : decode code 570 = .ok (.iconst 1, 1) := by decide +kernel
theorem d_law_571 : decode code 571 = .ok (.iadd, 1) := by decide +kernel
theorem d_law_572 : decode code 572 = .ok (.iaload, 1) := by decide +kernel
theorem d_law_573 : decode code 573 = .ok (.aload_n 0, 1) := by decide +kernel
theorem d_law_574 : decode code 574 = .ok (.iload_n 3, 1) := by decide +kernel
theorem d_law_575 : decode code 575 = .ok (.iconst 2, 1) := by decide +kernel
theorem d_law_576 : decode code 576 = .ok (.iadd, 1) := by decide +kernel
theorem d_law_577 : decode code 577 = .ok (.iaload, 1) := by decide +kernel
theorem d_law_578 : decode code 578 = .ok (.invokevirtual 66, 3) := by decide +kernel
theorem d_law_581 : decode code 581 = .ok (.if_icmp .eq 539, 3) := by decide +kernel
theorem d_law_584 : decode code 584 = .ok (.iconst 0, 1) := by decide +kernel
theorem d_law_585 : decode code 585 = .ok (.ireturn, 1) := by decide +kernel
theorem d_law_586 : decode code 586 = .ok (.aload_n 1, 1) := by decide +kernel
theorem d_law_587 : decode code 587 = .ok (.aload_n 0, 1) := by decide +kernel
theorem d_law_588 : decode code 588 = .ok (.iload_n 3, 1) := by decide +kernel
theorem d_law_589 : decode code 589 = .ok (.iconst 1, 1) := by decide +kernel
theorem d_law_590 : decode code 590 = .ok (.iadd, 1) := by decide +kernel
theorem d_law_591 : decode code 591 = .ok (.iaload, 1) := by decide +kernel
theorem d_law_592 : decode code 592 = .ok (.aload_n 0, 1) := by decide +kernel
theorem d_law_593 : decode code 593 = .ok (.iload_n 3, 1) := by decide +kernel
theorem d_law_594 : decode code 594 = .ok (.iconst 2, 1) := by decide +kernel
theorem d_law_595 : decode code 595 = .ok (.iadd, 1) := by decide +kernel
theorem d_law_596 : decode code 596 = .ok (.iaload, 1) := by decide +kernel
theorem d_law_597 : decode code 597 = .ok (.aload_n 0, 1) := by decide +kernel
theorem d_law_598 : decode code 598 = .ok (.iload_n 3, 1) := by decide +kernel
theorem d_law_599 : decode code 599 = .ok (.iconst 3, 1) := by decide +kernel
theorem d_law_600 : decode code 600 = .ok (.iadd, 1) := by decide +kernel
theorem d_law_601 : decode code 601 = .ok (.iaload, 1) := by decide +kernel
theorem d_law_602 : decode code 602 = .ok (.invokevirtual 67, 3) := by decide +kernel
theorem d_law_605 : decode code 605 = .ok (.aload_n 2, 1) := by decide +kernel
theorem d_law_606 : decode code 606 = .ok (.aload_n 0, 1) := by decide +kernel
theorem d_law_607 : decode code 607 = .ok (.iload_n 3, 1) := by decide +kernel
theorem d_law_608 : decode code 608 = .ok (.iconst 1, 1) := by decide +kernel
theorem d_law_609 : decode code 609 = .ok (.iadd, 1) := by decide +kernel
theorem d_law_610 : decode code 610 = .ok (.iaload, 1) := by decide +kernel
theorem d_law_611 : decode code 611 = .ok (.aload_n 0, 1) := by decide +kernel
theorem d_law_612 : decode code 612 = .ok (.iload_n 3, 1) := by decide +kernel
theorem d_law_613 : decode code 613 = .ok (.iconst 2, 1) := by decide +kernel
theorem d_law_614 : decode code 614 = .ok (.iadd, 1) := by decide +kernel
theorem d_law_615 : decode code 615 = .ok (.iaload, 1) := by decide +kernel
theorem d_law_616 : decode code 616 = .ok (.aload_n 0, 1) := by decide +kernel
theorem d_law_617 : decode code 617 = .ok (.iload_n 3, 1) := by decide +kernel
